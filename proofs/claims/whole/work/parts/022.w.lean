def w_Machine_compare_L177 (Qr : xb_H → Prop) (y0 : Int64) (y1 : Int32) (y2 : Nat) (h : xb_H) : Prop :=
    xb_k h y2 = 103 ∧ vp_in y1 (xb_n h y2) ∧ ∀ h3 : xb_H, h3 = xb_L h y2 (Int32.toNatClampNeg y1) y0 → Qr h3

def w_Machine_compare_L157 (Qr : xb_H → Prop) (x0 : Nat) (x6 : Int32) (h : xb_H) : Prop :=
    xb_k h x0 = 8 ∧ ∃ b2 : Nat, (xb_r h x0 9) = some b2 ∧ ((x6 = (0 : Int32) → w_Machine_compare_L177 Qr 0 ((xb_i h x0 10) - 1) b2 h) ∧ (¬ x6 = (0 : Int32) → w_Machine_compare_L177 Qr 1 ((xb_i h x0 10) - 1) b2 h))

def w_Machine_compare_L45 (Qr : xb_H → Prop) (y0 : Int64) (y1 : Int32) (y2 : Nat) (h : xb_H) : Prop :=
    xb_k h y2 = 103 ∧ vp_in y1 (xb_n h y2) ∧ ∀ h3 : xb_H, h3 = xb_L h y2 (Int32.toNatClampNeg y1) y0 → Qr h3

def w_Machine_compare_L24 (Qr : xb_H → Prop) (x0 : Nat) (x2 : Int64) (h : xb_H) : Prop :=
    xb_k h x0 = 8 ∧ ∃ b2 : Nat, (xb_r h x0 9) = some b2 ∧ ((¬ x2 = (0 : Int64) → w_Machine_compare_L45 Qr 0 ((xb_i h x0 10) - 1) b2 h) ∧ (x2 = (0 : Int64) → w_Machine_compare_L45 Qr 1 ((xb_i h x0 10) - 1) b2 h))

def w_Machine_compare (x0 : Nat) (x1 : Int32) (h : xb_H) (Qr : xb_H → Prop) : Prop :=
    xb_k h x0 = 8 ∧ ∃ b2 : Nat, (xb_r h x0 9) = some b2 ∧ xb_k h b2 = 103 ∧ vp_in ((xb_i h x0 10) - 1) (xb_n h b2) ∧ ∀ v5 : Int64, v5 = (xb_l h b2 (Int32.toNatClampNeg ((xb_i h x0 10) - 1))) → ((x1 = (69 : Int32) → w_Machine_compare_L24 Qr x0 v5 h) ∧ (¬ x1 = (69 : Int32) → ((¬ x1 = (80 : Int32) → ∀ h8 : xb_H, h8 = xb_I h x0 10 ((xb_i h x0 10) - 1) → ∃ b9 : Nat, (xb_r h8 x0 9) = some b9 ∧ xb_k h8 b9 = 103 ∧ vp_in ((xb_i h8 x0 10) - 1) (xb_n h8 b9) ∧ ∀ v12 : Int64, v12 = (xb_l h8 b9 (Int32.toNatClampNeg ((xb_i h8 x0 10) - 1))) → (((79 : Int32) < x1 → (((90 : Int32) < x1 → (((96 : Int32) < x1 → ∃ b16 : Nat, (xb_r h8 x0 2) = some b16 ∧ xb_k h8 b16 = 6 ∧ w_Format_holds b16 (x1 - 97) v12 v5 h8 (fun (r19 : Int32) (h18 : xb_H) => xb_ext h8 h18 → w_Machine_compare_L157 Qr x0 r19 h18)) ∧ (¬ (96 : Int32) < x1 → ∃ b20 : Nat, (xb_r h8 x0 1) = some b20 ∧ xb_k h8 b20 = 6 ∧ w_Format_holds b20 (x1 - 91) v12 v5 h8 (fun (r23 : Int32) (h22 : xb_H) => xb_ext h8 h22 → w_Machine_compare_L157 Qr x0 r23 h22)))) ∧ (¬ (90 : Int32) < x1 → w_Whole_holds (x1 - 81) v12 v5 h8 (fun (r25 : Int32) (h24 : xb_H) => xb_ext h8 h24 → w_Machine_compare_L157 Qr x0 r25 h24)))) ∧ (¬ (79 : Int32) < x1 → w_Whole_holds (x1 - 70) (Int32.toInt64 (Int64.toInt32 v12)) (Int32.toInt64 (Int64.toInt32 v5)) h8 (fun (r27 : Int32) (h26 : xb_H) => xb_ext h8 h26 → w_Machine_compare_L157 Qr x0 r27 h26)))) ∧ (x1 = (80 : Int32) → w_Machine_compare_L24 Qr x0 v5 h))))


def w_Machine_converted_L200 (Qr : Int64 → xb_H → Prop) (x2 : Int64) (h : xb_H) : Prop :=
    Qr x2 h

def w_Machine_converted_L167 (Qr : Int64 → xb_H → Prop) (x0 : Nat) (x2 : Int64) (h : xb_H) : Prop :=
    xb_k h x0 = 8 ∧ ∃ b2 : Nat, (xb_r h x0 2) = some b2 ∧ xb_k h b2 = 6 ∧ w_Format_ofWhole b2 x2 0 h (fun (r5 : Int64) (h4 : xb_H) => xb_ext h h4 → Qr r5 h4)

def w_Machine_converted_L122 (Qr : Int64 → xb_H → Prop) (x0 : Nat) (x2 : Int64) (h : xb_H) : Prop :=
    xb_k h x0 = 8 ∧ ∃ b2 : Nat, (xb_r h x0 1) = some b2 ∧ xb_k h b2 = 6 ∧ w_Format_ofWhole b2 x2 0 h (fun (r5 : Int64) (h4 : xb_H) => xb_ext h h4 → Qr r5 h4)

def w_Machine_converted (x0 : Nat) (x1 : Int32) (x2 : Int64) (h : xb_H) (Qr : Int64 → xb_H → Prop) : Prop :=
    ((x1 = 167 → Qr (x2 &&& 4294967295) h) ∧ (x1 = 168 → w_Machine_converted_L200 Qr x2 h) ∧ (x1 = 169 → w_Machine_converted_L200 Qr x2 h) ∧ (x1 = 170 → w_Machine_converted_L200 Qr x2 h) ∧ (x1 = 171 → w_Machine_converted_L200 Qr x2 h) ∧ (x1 = 172 → Qr (Int32.toInt64 (Int64.toInt32 x2)) h) ∧ (x1 = 173 → w_Machine_converted_L200 Qr x2 h) ∧ (x1 = 174 → w_Machine_converted_L200 Qr x2 h) ∧ (x1 = 175 → w_Machine_converted_L200 Qr x2 h) ∧ (x1 = 176 → w_Machine_converted_L200 Qr x2 h) ∧ (x1 = 177 → w_Machine_converted_L200 Qr x2 h) ∧ (x1 = 178 → xb_k h x0 = 8 ∧ ∃ b14 : Nat, (xb_r h x0 1) = some b14 ∧ xb_k h b14 = 6 ∧ w_Format_ofWhole b14 (Int32.toInt64 (Int64.toInt32 x2)) 1 h (fun (r17 : Int64) (h16 : xb_H) => xb_ext h h16 → Qr r17 h16)) ∧ (x1 = 179 → w_Machine_converted_L122 Qr x0 x2 h) ∧ (x1 = 180 → xb_k h x0 = 8 ∧ ∃ b21 : Nat, (xb_r h x0 1) = some b21 ∧ xb_k h b21 = 6 ∧ w_Format_ofWhole b21 x2 1 h (fun (r24 : Int64) (h23 : xb_H) => xb_ext h h23 → Qr r24 h23)) ∧ (x1 = 181 → w_Machine_converted_L122 Qr x0 x2 h) ∧ (x1 = 182 → xb_k h x0 = 8 ∧ ∃ b28 : Nat, (xb_r h x0 1) = some b28 ∧ ∃ b29 : Nat, (xb_r h x0 2) = some b29 ∧ xb_k h b28 = 6 ∧ w_Format_ofOther b28 b29 x2 h (fun (r32 : Int64) (h31 : xb_H) => xb_ext h h31 → Qr r32 h31)) ∧ (x1 = 183 → xb_k h x0 = 8 ∧ ∃ b35 : Nat, (xb_r h x0 2) = some b35 ∧ xb_k h b35 = 6 ∧ w_Format_ofWhole b35 (Int32.toInt64 (Int64.toInt32 x2)) 1 h (fun (r38 : Int64) (h37 : xb_H) => xb_ext h h37 → Qr r38 h37)) ∧ (x1 = 184 → w_Machine_converted_L167 Qr x0 x2 h) ∧ (x1 = 185 → xb_k h x0 = 8 ∧ ∃ b42 : Nat, (xb_r h x0 2) = some b42 ∧ xb_k h b42 = 6 ∧ w_Format_ofWhole b42 x2 1 h (fun (r45 : Int64) (h44 : xb_H) => xb_ext h h44 → Qr r45 h44)) ∧ (x1 = 186 → w_Machine_converted_L167 Qr x0 x2 h) ∧ (x1 = 187 → xb_k h x0 = 8 ∧ ∃ b49 : Nat, (xb_r h x0 2) = some b49 ∧ ∃ b50 : Nat, (xb_r h x0 1) = some b50 ∧ xb_k h b49 = 6 ∧ w_Format_ofOther b49 b50 x2 h (fun (r53 : Int64) (h52 : xb_H) => xb_ext h h52 → Qr r53 h52)) ∧ (¬ x1 = 167 → ¬ x1 = 168 → ¬ x1 = 169 → ¬ x1 = 170 → ¬ x1 = 171 → ¬ x1 = 172 → ¬ x1 = 173 → ¬ x1 = 174 → ¬ x1 = 175 → ¬ x1 = 176 → ¬ x1 = 177 → ¬ x1 = 178 → ¬ x1 = 179 → ¬ x1 = 180 → ¬ x1 = 181 → ¬ x1 = 182 → ¬ x1 = 183 → ¬ x1 = 184 → ¬ x1 = 185 → ¬ x1 = 186 → ¬ x1 = 187 → w_Machine_converted_L200 Qr x2 h))


def w_Machine_passFree_L166 (Qr : xb_H → Prop) (h : xb_H) : Prop :=
    Qr h

def w_Machine_passFree_L160 (K2 : Nat → Int32 → xb_H → Prop) (Qr : xb_H → Prop) (x0 : Nat) (x1 : Int32) (h : xb_H) : Prop :=
    K2 x0 (x1 + 1) h

def w_Machine_passFree_L159 (K2 : Nat → Int32 → xb_H → Prop) (Qr : xb_H → Prop) (h : xb_H) : Prop :=
    Qr h

def w_Machine_passFree_L97 (K2 : Nat → Int32 → xb_H → Prop) (Qr : xb_H → Prop) (x0 : Nat) (x1 : Int32) (h : xb_H) : Prop :=
    xb_k h x0 = 8 ∧ ∀ h2 : xb_H, h2 = xb_I h x0 15 ((xb_i h x0 15) + 2) → w_Machine_passFree_L160 K2 Qr x0 x1 h2

set_option maxRecDepth 100000 in
def w_Machine_passFree_L2 (Qr : xb_H → Prop) : Nat → Nat → Int32 → xb_H → Prop
  | 0, _, _, _ => False
  | n9 + 1, x0, x1, h =>
    (((20000000 : Int32) ≤ x1 → w_Machine_passFree_L166 Qr h) ∧ (¬ (20000000 : Int32) ≤ x1 → xb_k h x0 = 8 ∧ (((xb_i h x0 3) = (0 : Int32) → w_Machine_passFree_L166 Qr h) ∧ (¬ (xb_i h x0 3) = (0 : Int32) → ∃ b4 : Nat, (xb_r h x0 13) = some b4 ∧ xb_k h b4 = 100 ∧ vp_in (xb_i h x0 15) (xb_n h b4) ∧ (((xb_i h b4 (Int32.toNatClampNeg (xb_i h x0 15))) = 1 → ∀ h8 : xb_H, h8 = xb_I h x0 15 ((xb_i h x0 15) + 1) → w_Machine_passFree_L160 (w_Machine_passFree_L2 Qr n9) Qr x0 x1 h8) ∧ ((xb_i h b4 (Int32.toNatClampNeg (xb_i h x0 15))) = 2 → w_Machine_passFree_L97 (w_Machine_passFree_L2 Qr n9) Qr x0 x1 h) ∧ ((xb_i h b4 (Int32.toNatClampNeg (xb_i h x0 15))) = 3 → w_Machine_passFree_L97 (w_Machine_passFree_L2 Qr n9) Qr x0 x1 h) ∧ ((xb_i h b4 (Int32.toNatClampNeg (xb_i h x0 15))) = 4 → w_Machine_passFree_L159 (w_Machine_passFree_L2 Qr n9) Qr h) ∧ ((xb_i h b4 (Int32.toNatClampNeg (xb_i h x0 15))) = 5 → ∃ b13 : Nat, (xb_r h x0 14) = some b13 ∧ xb_k h b13 = 102 ∧ vp_in (xb_i h x0 15) (xb_n h b13) ∧ ∀ h16 : xb_H, h16 = xb_I h x0 15 (xb_i h b13 (Int32.toNatClampNeg (xb_i h x0 15))) → w_Machine_passFree_L160 (w_Machine_passFree_L2 Qr n9) Qr x0 x1 h16) ∧ ((xb_i h b4 (Int32.toNatClampNeg (xb_i h x0 15))) = 6 → w_Machine_passFree_L159 (w_Machine_passFree_L2 Qr n9) Qr h) ∧ ((xb_i h b4 (Int32.toNatClampNeg (xb_i h x0 15))) = 7 → w_Machine_passFree_L159 (w_Machine_passFree_L2 Qr n9) Qr h) ∧ ((xb_i h b4 (Int32.toNatClampNeg (xb_i h x0 15))) = 8 → w_Machine_passFree_L159 (w_Machine_passFree_L2 Qr n9) Qr h) ∧ ((xb_i h b4 (Int32.toNatClampNeg (xb_i h x0 15))) = 9 → w_Machine_passFree_L159 (w_Machine_passFree_L2 Qr n9) Qr h) ∧ ((xb_i h b4 (Int32.toNatClampNeg (xb_i h x0 15))) = 10 → w_Machine_passFree_L159 (w_Machine_passFree_L2 Qr n9) Qr h) ∧ ((xb_i h b4 (Int32.toNatClampNeg (xb_i h x0 15))) = 11 → ∃ b23 : Nat, (xb_r h x0 14) = some b23 ∧ xb_k h b23 = 102 ∧ vp_in (xb_i h x0 15) (xb_n h b23) ∧ ((¬ (xb_i h b23 (Int32.toNatClampNeg (xb_i h x0 15))) = (1 : Int32) → ∀ h27 : xb_H, h27 = xb_I h x0 15 ((xb_i h x0 15) + 1) → w_Machine_passFree_L160 (w_Machine_passFree_L2 Qr n9) Qr x0 x1 h27) ∧ ((xb_i h b23 (Int32.toNatClampNeg (xb_i h x0 15))) = (1 : Int32) → w_Machine_endCall x0 h (fun (h28 : xb_H) => xb_ext h h28 → w_Machine_passFree_L160 (w_Machine_passFree_L2 Qr n9) Qr x0 x1 h28)))) ∧ (¬ (xb_i h b4 (Int32.toNatClampNeg (xb_i h x0 15))) = 1 → ¬ (xb_i h b4 (Int32.toNatClampNeg (xb_i h x0 15))) = 2 → ¬ (xb_i h b4 (Int32.toNatClampNeg (xb_i h x0 15))) = 3 → ¬ (xb_i h b4 (Int32.toNatClampNeg (xb_i h x0 15))) = 4 → ¬ (xb_i h b4 (Int32.toNatClampNeg (xb_i h x0 15))) = 5 → ¬ (xb_i h b4 (Int32.toNatClampNeg (xb_i h x0 15))) = 6 → ¬ (xb_i h b4 (Int32.toNatClampNeg (xb_i h x0 15))) = 7 → ¬ (xb_i h b4 (Int32.toNatClampNeg (xb_i h x0 15))) = 8 → ¬ (xb_i h b4 (Int32.toNatClampNeg (xb_i h x0 15))) = 9 → ¬ (xb_i h b4 (Int32.toNatClampNeg (xb_i h x0 15))) = 10 → ¬ (xb_i h b4 (Int32.toNatClampNeg (xb_i h x0 15))) = 11 → w_Machine_passFree_L159 (w_Machine_passFree_L2 Qr n9) Qr h))))))

def w_Machine_passFree (x0 : Nat) (h : xb_H) (Qr : xb_H → Prop) : Prop :=
    (∃ n8 : Nat, w_Machine_passFree_L2 Qr n8 x0 0 h)


def w_Machine_reckonLong_L93 (Qr : xb_H → Prop) (x0 : Nat) (x2 : Int64) (x4 : Int64) (x6 : Int32) (y0 : Int32) (y1 : Int32) (y2 : Int32) (h : xb_H) : Prop :=
    w_Whole_trapOf y2 y1 y0 h (fun (r2 : Int32) (h1 : xb_H) => xb_ext h h1 → ((r2 = (0 : Int32) → xb_k h1 x0 = 8 ∧ ∀ h5 : xb_H, h5 = xb_I h1 x0 10 ((xb_i h1 x0 10) - 1) → ∃ b6 : Nat, (xb_r h5 x0 9) = some b6 ∧ w_Whole_reckonLong x6 x4 x2 h5 (fun (r8 : Int64) (h7 : xb_H) => xb_ext h5 h7 → xb_k h7 b6 = 103 ∧ vp_in ((xb_i h5 x0 10) - 1) (xb_n h7 b6) ∧ ∀ h11 : xb_H, h11 = xb_L h7 b6 (Int32.toNatClampNeg ((xb_i h5 x0 10) - 1)) r8 → Qr h11)) ∧ (¬ r2 = (0 : Int32) → xb_k h1 x0 = 8 ∧ w_Machine_fall x0 r2 h1 (fun (h13 : xb_H) => xb_ext h1 h13 → Qr h13))))

def w_Machine_reckonLong_L92 (Qr : xb_H → Prop) (x0 : Nat) (x2 : Int64) (x4 : Int64) (x6 : Int32) (y0 : Int32) (y1 : Int32) (h : xb_H) : Prop :=
    w_Machine_reckonLong_L93 Qr x0 x2 x4 x6 0 y0 y1 h

def w_Machine_reckonLong_L71 (Qr : xb_H → Prop) (x0 : Nat) (x2 : Int64) (x4 : Int64) (x6 : Int32) (y0 : Int32) (y1 : Int32) (h : xb_H) : Prop :=
    ((¬ x4 = ((-9223372036854775808) : Int64) → w_Machine_reckonLong_L92 Qr x0 x2 x4 x6 y0 y1 h) ∧ (x4 = ((-9223372036854775808) : Int64) → ((¬ x2 = ((-1) : Int64) → w_Machine_reckonLong_L92 Qr x0 x2 x4 x6 y0 y1 h) ∧ (x2 = ((-1) : Int64) → w_Machine_reckonLong_L93 Qr x0 x2 x4 x6 1 y0 y1 h))))

def w_Machine_reckonLong (x0 : Nat) (x1 : Int32) (h : xb_H) (Qr : xb_H → Prop) : Prop :=
    xb_k h x0 = 8 ∧ ∃ b2 : Nat, (xb_r h x0 9) = some b2 ∧ xb_k h b2 = 103 ∧ vp_in ((xb_i h x0 10) - 1) (xb_n h b2) ∧ ∀ v5 : Int64, v5 = (xb_l h b2 (Int32.toNatClampNeg ((xb_i h x0 10) - 1))) → (((123 : Int32) < x1 → ∃ b7 : Nat, (xb_r h x0 9) = some b7 ∧ xb_k h b7 = 103 ∧ vp_in ((xb_i h x0 10) - 2) (xb_n h b7) ∧ ∀ v10 : Int64, v10 = (xb_l h b7 (Int32.toNatClampNeg ((xb_i h x0 10) - 2))) → ∀ v11 : Int32, v11 = (x1 - 124) → ((¬ v5 = (0 : Int64) → w_Machine_reckonLong_L71 Qr x0 v5 v10 v11 0 v11 h) ∧ (v5 = (0 : Int64) → w_Machine_reckonLong_L71 Qr x0 v5 v10 v11 1 v11 h))) ∧ (¬ (123 : Int32) < x1 → ∃ b13 : Nat, (xb_r h x0 9) = some b13 ∧ w_Whole_countLong (x1 - 121) v5 h (fun (r15 : Int32) (h14 : xb_H) => xb_ext h h14 → xb_k h14 b13 = 103 ∧ vp_in ((xb_i h x0 10) - 1) (xb_n h14 b13) ∧ ∀ h18 : xb_H, h18 = xb_L h14 b13 (Int32.toNatClampNeg ((xb_i h x0 10) - 1)) (Int32.toInt64 r15) → Qr h18)))


def w_Machine_truncate_L75 (Qr : xb_H → Prop) (y0 : Int64) (y1 : Int32) (y2 : Nat) (h : xb_H) : Prop :=
    xb_k h y2 = 103 ∧ vp_in y1 (xb_n h y2) ∧ ∀ h3 : xb_H, h3 = xb_L h y2 (Int32.toNatClampNeg y1) y0 → Qr h3

def w_Machine_truncate_L45 (Qr : xb_H → Prop) (x0 : Nat) (x4 : Int32) (y0 : Int64) (h : xb_H) : Prop :=
    xb_k h x0 = 8 ∧ ∃ b2 : Nat, (xb_r h x0 9) = some b2 ∧ ((¬ x4 = (32 : Int32) → w_Machine_truncate_L75 Qr y0 ((xb_i h x0 10) - 1) b2 h) ∧ (x4 = (32 : Int32) → w_Machine_truncate_L75 Qr (y0 &&& 4294967295) ((xb_i h x0 10) - 1) b2 h))

def w_Machine_truncate (x0 : Nat) (x1 : Nat) (x2 : Int64) (x4 : Int32) (x5 : Int32) (h : xb_H) (Qr : xb_H → Prop) : Prop :=
    xb_k h x1 = 6 ∧ w_Format_trapOfWhole x1 x2 x4 x5 h (fun (r3 : Int32) (h2 : xb_H) => xb_ext h h2 → ((r3 = (0 : Int32) → w_Format_isNegative x1 x2 h2 (fun (r6 : Int32) (h5 : xb_H) => xb_ext h2 h5 → ((r6 = (0 : Int32) → w_Format_wholePart x1 x2 h5 (fun (r9 : Int64) (h8 : xb_H) => xb_ext h5 h8 → w_Machine_truncate_L45 Qr x0 x4 r9 h8)) ∧ (¬ r6 = (0 : Int32) → w_Format_wholePart x1 x2 h5 (fun (r11 : Int64) (h10 : xb_H) => xb_ext h5 h10 → w_Machine_truncate_L45 Qr x0 x4 (-r11) h10))))) ∧ (¬ r3 = (0 : Int32) → xb_k h2 x0 = 8 ∧ w_Machine_fall x0 r3 h2 (fun (h13 : xb_H) => xb_ext h2 h13 → Qr h13))))


def w_Machine_useMemory_L173 (Qr : xb_H → Prop) (x0 : Nat) (h : xb_H) : Prop :=
    xb_k h x0 = 8 ∧ ∃ b2 : Nat, (xb_r h x0 14) = some b2 ∧ xb_k h b2 = 102 ∧ vp_in (xb_i h x0 15) (xb_n h b2) ∧ ∀ h5 : xb_H, h5 = xb_I h x0 15 (xb_i h b2 (Int32.toNatClampNeg (xb_i h x0 15))) → Qr h5

def w_Machine_useMemory_L36 (Qr : xb_H → Prop) (x0 : Nat) (x1 : Int32) (x2 : Int32) (x3 : Int32) (y0 : Int32) (h : xb_H) : Prop :=
    xb_k h x0 = 8 ∧ ∃ b2 : Nat, (xb_r h x0 9) = some b2 ∧ xb_k h b2 = 103 ∧ vp_in y0 (xb_n h b2) ∧ ∃ b5 : Nat, (xb_r h x0 14) = some b5 ∧ xb_k h b5 = 102 ∧ vp_in ((xb_i h x0 15) + 2) (xb_n h b5) ∧ ∀ v8 : Int64, v8 = ((xb_l h b2 (Int32.toNatClampNeg y0)) + ((Int32.toInt64 (xb_i h b5 (Int32.toNatClampNeg ((xb_i h x0 15) + 2)))) &&& 4294967295)) → vp_in x2 23 ∧ ∃ b11 : Nat, (xb_r h x0 12) = some b11 ∧ xb_k h b11 = 11 ∧ ∃ b13 : Nat, (xb_r h b11 7) = some b13 ∧ xb_k h b13 = 13 ∧ w_Memory_bytes b13 h (fun (r16 : Int32) (h15 : xb_H) => xb_ext h h15 → (((v8 + (Int32.toInt64 (xb_cMB.getD (Int32.toNatClampNeg x2) 0))) ≤ (Int32.toInt64 r16) → ((x3 = (0 : Int32) → ∃ b19 : Nat, (xb_r h15 x0 12) = some b19 ∧ xb_k h15 b19 = 11 ∧ ∃ b21 : Nat, (xb_r h15 b19 7) = some b21 ∧ vp_in x2 23 ∧ xb_k h15 b21 = 13 ∧ w_Memory_fetch b21 (Int64.toInt32 v8) (xb_cMB.getD (Int32.toNatClampNeg x2) 0) h15 (fun (r26 : Int64) (h25 : xb_H) => xb_ext h15 h25 → ∃ b27 : Nat, (xb_r h25 x0 9) = some b27 ∧ w_Machine_widened x1 r26 h25 (fun (r29 : Int64) (h28 : xb_H) => xb_ext h25 h28 → xb_k h28 b27 = 103 ∧ vp_in y0 (xb_n h28 b27) ∧ ∀ h32 : xb_H, h32 = xb_L h28 b27 (Int32.toNatClampNeg y0) r29 → w_Machine_useMemory_L173 Qr x0 h32))) ∧ (¬ x3 = (0 : Int32) → ∃ b33 : Nat, (xb_r h15 x0 12) = some b33 ∧ xb_k h15 b33 = 11 ∧ ∃ b35 : Nat, (xb_r h15 b33 7) = some b35 ∧ vp_in x2 23 ∧ ∃ b38 : Nat, (xb_r h15 x0 9) = some b38 ∧ xb_k h15 b38 = 103 ∧ vp_in ((xb_i h15 x0 10) - 1) (xb_n h15 b38) ∧ xb_k h15 b35 = 13 ∧ w_Memory_store b35 (Int64.toInt32 v8) (xb_cMB.getD (Int32.toNatClampNeg x2) 0) (xb_l h15 b38 (Int32.toNatClampNeg ((xb_i h15 x0 10) - 1))) h15 (fun (h42 : xb_H) => xb_ext h15 h42 → ∀ h44 : xb_H, h44 = xb_I h42 x0 10 ((xb_i h42 x0 10) - 2) → w_Machine_useMemory_L173 Qr x0 h44)))) ∧ (¬ (v8 + (Int32.toInt64 (xb_cMB.getD (Int32.toNatClampNeg x2) 0))) ≤ (Int32.toInt64 r16) → w_Machine_fall x0 2 h15 (fun (h45 : xb_H) => xb_ext h15 h45 → Qr h45))))

def w_Machine_useMemory_L16 (Qr : xb_H → Prop) (x0 : Nat) (x1 : Int32) (x2 : Int32) (y0 : Int32) (h : xb_H) : Prop :=
    ((y0 = (0 : Int32) → xb_k h x0 = 8 ∧ w_Machine_useMemory_L36 Qr x0 x1 x2 y0 ((xb_i h x0 10) - 1) h) ∧ (¬ y0 = (0 : Int32) → xb_k h x0 = 8 ∧ w_Machine_useMemory_L36 Qr x0 x1 x2 y0 ((xb_i h x0 10) - 2) h))

def w_Machine_useMemory (x0 : Nat) (x1 : Int32) (h : xb_H) (Qr : xb_H → Prop) : Prop :=
    ∀ v1 : Int32, v1 = (x1 - 40) → ((x1 < (54 : Int32) → w_Machine_useMemory_L16 Qr x0 x1 v1 0 h) ∧ (¬ x1 < (54 : Int32) → w_Machine_useMemory_L16 Qr x0 x1 v1 1 h))


def w_Reader_readExport (x0 : Nat) (h : xb_H) (bc : Nat) (bs : Nat) (Qr : xb_H → Nat → Nat → Prop) (Qt : String → xb_H → Nat → Nat → Prop) : Prop :=
    xb_k h x0 = 4 ∧ ∀ v2 : Int32, v2 = (xb_i h x0 3) → w_Reader_readName x0 h bc bs (fun (r4 : Int32) (h3 : xb_H) (bc4 bs4 : Nat) => xb_ext h h3 → ∀ v5 : Int32, v5 = ((xb_i h3 x0 3) - r4) → ∃ b6 : Nat, (xb_r h3 x0 0) = some b6 ∧ xb_k h3 b6 = 3 ∧ ∃ b8 : Nat, (xb_r h3 b6 8) = some b8 ∧ xb_k h3 b8 = 2 ∧ w_Row_add b8 (Int32.toInt64 v2) h3 bc4 bs4 (fun (h10 : xb_H) (bc11 bs11 : Nat) => xb_ext h3 h10 → ∃ b12 : Nat, (xb_r h10 x0 0) = some b12 ∧ xb_k h10 b12 = 3 ∧ ∃ b14 : Nat, (xb_r h10 b12 8) = some b14 ∧ w_Reader_byteUpTo x0 3 h10 bc11 bs11 (fun (r16 : Int32) (h15 : xb_H) (bc16 bs16 : Nat) => xb_ext h10 h15 → xb_k h15 b14 = 2 ∧ w_Row_add b14 (Int32.toInt64 r16) h15 bc16 bs16 (fun (h18 : xb_H) (bc19 bs19 : Nat) => xb_ext h15 h18 → ∃ b20 : Nat, (xb_r h18 x0 0) = some b20 ∧ xb_k h18 b20 = 3 ∧ ∃ b22 : Nat, (xb_r h18 b20 8) = some b22 ∧ w_Reader_count x0 h18 bc19 bs19 (fun (r24 : Int32) (h23 : xb_H) (bc24 bs24 : Nat) => xb_ext h18 h23 → xb_k h23 b22 = 2 ∧ w_Row_add b22 ((Int32.toInt64 r24) &&& 4294967295) h23 bc24 bs24 (fun (h26 : xb_H) (bc27 bs27 : Nat) => xb_ext h23 h26 → ∃ b28 : Nat, (xb_r h26 x0 0) = some b28 ∧ xb_k h26 b28 = 3 ∧ ∃ b30 : Nat, (xb_r h26 b28 8) = some b30 ∧ xb_k h26 b30 = 2 ∧ w_Row_add b30 (Int32.toInt64 v5) h26 bc27 bs27 (fun (h32 : xb_H) (bc33 bs33 : Nat) => xb_ext h26 h32 → ∃ b34 : Nat, (xb_r h32 x0 0) = some b34 ∧ xb_k h32 b34 = 3 ∧ ∃ b36 : Nat, (xb_r h32 b34 8) = some b36 ∧ xb_k h32 b36 = 2 ∧ w_Row_add b36 (Int32.toInt64 r4) h32 bc33 bs33 (fun (h38 : xb_H) (bc39 bs39 : Nat) => xb_ext h32 h38 → Qr h38 bc39 bs39)))) Qt)) Qt)) Qt


def w_Reader_readExpression_L233 (Qr : xb_H → Nat → Nat → Prop) (Qt : String → xb_H → Nat → Nat → Prop) (h : xb_H) (bc : Nat) (bs : Nat) : Prop :=
    Qr h bc bs

def w_Reader_readExpression_L227 (K6 : Nat → Int32 → Int32 → Int32 → xb_H → Nat → Nat → Prop) (Qr : xb_H → Nat → Nat → Prop) (Qt : String → xb_H → Nat → Nat → Prop) (x0 : Nat) (x1 : Int32) (x2 : Int32) (x3 : Int32) (h : xb_H) (bc : Nat) (bs : Nat) : Prop :=
    K6 x0 x1 x2 (x3 + 1) h bc bs

def w_Reader_readExpression_L219 (K6 : Nat → Int32 → Int32 → Int32 → xb_H → Nat → Nat → Prop) (Qr : xb_H → Nat → Nat → Prop) (Qt : String → xb_H → Nat → Nat → Prop) (x0 : Nat) (x1 : Int32) (x2 : Int32) (x3 : Int32) (x4 : Int32) (x5 : Int32) (h : xb_H) (bc : Nat) (bs : Nat) : Prop :=
    xb_k h x0 = 4 ∧ w_Reader_readOperands x0 x5 x4 h bc bs (fun (h2 : xb_H) (bc3 bs3 : Nat) => xb_ext h h2 → w_Reader_readExpression_L227 K6 Qr Qt x0 x1 x2 x3 h2 bc3 bs3) Qt

def w_Reader_readExpression_L182 (K6 : Nat → Int32 → Int32 → Int32 → xb_H → Nat → Nat → Prop) (Qr : xb_H → Nat → Nat → Prop) (Qt : String → xb_H → Nat → Nat → Prop) (x0 : Nat) (x1 : Int32) (x3 : Int32) (x4 : Int32) (y0 : Int32) (h : xb_H) (bc : Nat) (bs : Nat) : Prop :=
    ∀ v1 : Int32, v1 = (if 0 < (x1 - 1) then (x1 - 1) else 0) → xb_k h x0 = 4 ∧ ∃ b3 : Nat, (xb_r h x0 5) = some b3 ∧ xb_k h b3 = 102 ∧ vp_in v1 (xb_n h b3) ∧ w_Reader_noteEnd x0 y0 x4 (xb_i h b3 (Int32.toNatClampNeg v1)) h (fun (h6 : xb_H) => xb_ext h h6 → w_Reader_readExpression_L227 K6 Qr Qt x0 v1 y0 x3 h6 bc bs)

def w_Reader_readExpression_L143 (K6 : Nat → Int32 → Int32 → Int32 → xb_H → Nat → Nat → Prop) (Qr : xb_H → Nat → Nat → Prop) (Qt : String → xb_H → Nat → Nat → Prop) (x0 : Nat) (x1 : Int32) (x2 : Int32) (x3 : Int32) (x4 : Int32) (h : xb_H) (bc : Nat) (bs : Nat) : Prop :=
    xb_k h x0 = 4 ∧ ∃ b2 : Nat, (xb_r h x0 2) = some b2 ∧ ∃ b3 : Nat, (xb_r h x0 5) = some b3 ∧ xb_k h b3 = 102 ∧ vp_in (x1 - 1) (xb_n h b3) ∧ xb_k h b2 = 102 ∧ vp_in ((xb_i h b3 (Int32.toNatClampNeg (x1 - 1))) + 1) (xb_n h b2) ∧ ∀ h8 : xb_H, h8 = xb_I h b2 (Int32.toNatClampNeg ((xb_i h b3 (Int32.toNatClampNeg (x1 - 1))) + 1)) x4 → ∃ b9 : Nat, (xb_r h8 x0 5) = some b9 ∧ xb_k h8 b9 = 102 ∧ vp_in (x1 - 1) (xb_n h8 b9) ∧ ∀ h12 : xb_H, h12 = xb_I h8 b9 (Int32.toNatClampNeg (x1 - 1)) x4 → w_Reader_readExpression_L227 K6 Qr Qt x0 x1 x2 x3 h12 bc bs

def w_Reader_readExpression_L133 (K6 : Nat → Int32 → Int32 → Int32 → xb_H → Nat → Nat → Prop) (Qr : xb_H → Nat → Nat → Prop) (Qt : String → xb_H → Nat → Nat → Prop) (x0 : Nat) (x1 : Int32) (x2 : Int32) (x3 : Int32) (x4 : Int32) (h : xb_H) (bc : Nat) (bs : Nat) : Prop :=
    xb_k h x0 = 4 ∧ ∃ b2 : Nat, (xb_r h x0 0) = some b2 ∧ xb_k h b2 = 3 ∧ w_StackModule_fail b2 5 x4 h bc bs (fun (h4 : xb_H) (bc5 bs5 : Nat) => xb_ext h h4 → w_Reader_readExpression_L143 K6 Qr Qt x0 x1 x2 x3 x4 h4 bc5 bs5) Qt

def w_Reader_readExpression_L94 (K6 : Nat → Int32 → Int32 → Int32 → xb_H → Nat → Nat → Prop) (Qr : xb_H → Nat → Nat → Prop) (Qt : String → xb_H → Nat → Nat → Prop) (x0 : Nat) (x1 : Int32) (x2 : Int32) (x3 : Int32) (x4 : Int32) (h : xb_H) (bc : Nat) (bs : Nat) : Prop :=
    xb_k h x0 = 4 ∧ w_Reader_readBlockType x0 h bc bs (fun (h2 : xb_H) (bc3 bs3 : Nat) => xb_ext h h2 → ∃ b4 : Nat, (xb_r h2 x0 5) = some b4 ∧ xb_k h2 b4 = 102 ∧ vp_in x1 (xb_n h2 b4) ∧ ∀ h7 : xb_H, h7 = xb_I h2 b4 (Int32.toNatClampNeg x1) x4 → w_Reader_readExpression_L227 K6 Qr Qt x0 (x1 + 1) x2 x3 h7 bc3 bs3) Qt

def w_Reader_readExpression_L6 (Qr : xb_H → Nat → Nat → Prop) (Qt : String → xb_H → Nat → Nat → Prop) : Nat → Nat → Int32 → Int32 → Int32 → xb_H → Nat → Nat → Prop
  | 0, _, _, _, _, _, _, _ => False
  | n9 + 1, x0, x1, x2, x3, h, bc, bs =>
    xb_k h x0 = 4 ∧ ∃ b2 : Nat, (xb_r h x0 1) = some b2 ∧ xb_k h b2 = 100 ∧ (((nI (xb_n h b2)) ≤ x3 → w_Reader_readExpression_L233 Qr Qt h bc bs) ∧ (¬ (nI (xb_n h b2)) ≤ x3 → ((¬ x2 = (0 : Int32) → w_Reader_readExpression_L233 Qr Qt h bc bs) ∧ (x2 = (0 : Int32) → ∀ v6 : Int32, v6 = (xb_i h x0 3) → w_Reader_nextByte x0 h bc bs (fun (r8 : Int32) (h7 : xb_H) (bc8 bs8 : Nat) => xb_ext h h7 → w_Reader_shapeOf r8 h7 (fun (r10 : Int32) (h9 : xb_H) => xb_ext h7 h9 → ((r10 = 0 → w_Reader_readExpression_L227 (w_Reader_readExpression_L6 Qr Qt n9) Qr Qt x0 x1 x2 x3 h9 bc8 bs8) ∧ (r10 = 1 → ((¬ x1 = (200 : Int32) → w_Reader_readExpression_L94 (w_Reader_readExpression_L6 Qr Qt n9) Qr Qt x0 x1 x2 x3 v6 h9 bc8 bs8) ∧ (x1 = (200 : Int32) → ∃ b14 : Nat, (xb_r h9 x0 0) = some b14 ∧ xb_k h9 b14 = 3 ∧ w_StackModule_fail b14 10 v6 h9 bc8 bs8 (fun (h16 : xb_H) (bc17 bs17 : Nat) => xb_ext h9 h16 → w_Reader_readExpression_L94 (w_Reader_readExpression_L6 Qr Qt n9) Qr Qt x0 x1 x2 x3 v6 h16 bc17 bs17) Qt))) ∧ (r10 = 2 → ((x1 = (0 : Int32) → w_Reader_readExpression_L133 (w_Reader_readExpression_L6 Qr Qt n9) Qr Qt x0 x1 x2 x3 v6 h9 bc8 bs8) ∧ (¬ x1 = (0 : Int32) → ∃ b20 : Nat, (xb_r h9 x0 1) = some b20 ∧ ∃ b21 : Nat, (xb_r h9 x0 5) = some b21 ∧ xb_k h9 b21 = 102 ∧ vp_in (x1 - 1) (xb_n h9 b21) ∧ xb_k h9 b20 = 100 ∧ vp_in (xb_i h9 b21 (Int32.toNatClampNeg (x1 - 1))) (xb_n h9 b20) ∧ (((xb_i h9 b20 (Int32.toNatClampNeg (xb_i h9 b21 (Int32.toNatClampNeg (x1 - 1))))) = (4 : Int32) → w_Reader_readExpression_L143 (w_Reader_readExpression_L6 Qr Qt n9) Qr Qt x0 x1 x2 x3 v6 h9 bc8 bs8) ∧ (¬ (xb_i h9 b20 (Int32.toNatClampNeg (xb_i h9 b21 (Int32.toNatClampNeg (x1 - 1))))) = (4 : Int32) → w_Reader_readExpression_L133 (w_Reader_readExpression_L6 Qr Qt n9) Qr Qt x0 x1 x2 x3 v6 h9 bc8 bs8))))) ∧ (r10 = 3 → ((¬ x1 = (0 : Int32) → w_Reader_readExpression_L182 (w_Reader_readExpression_L6 Qr Qt n9) Qr Qt x0 x1 x3 v6 0 h9 bc8 bs8) ∧ (x1 = (0 : Int32) → w_Reader_readExpression_L182 (w_Reader_readExpression_L6 Qr Qt n9) Qr Qt x0 x1 x3 v6 1 h9 bc8 bs8))) ∧ (r10 = 4 → w_Reader_readExpression_L219 (w_Reader_readExpression_L6 Qr Qt n9) Qr Qt x0 x1 x2 x3 v6 r10 h9 bc8 bs8) ∧ (r10 = 5 → w_Reader_readLabels x0 v6 h9 bc8 bs8 (fun (h31 : xb_H) (bc32 bs32 : Nat) => xb_ext h9 h31 → w_Reader_readExpression_L227 (w_Reader_readExpression_L6 Qr Qt n9) Qr Qt x0 x1 x2 x3 h31 bc32 bs32) Qt) ∧ (¬ r10 = 0 → ¬ r10 = 1 → ¬ r10 = 2 → ¬ r10 = 3 → ¬ r10 = 4 → ¬ r10 = 5 → w_Reader_readExpression_L219 (w_Reader_readExpression_L6 Qr Qt n9) Qr Qt x0 x1 x2 x3 v6 r10 h9 bc8 bs8)))) Qt))))

def w_Reader_readExpression (x0 : Nat) (h : xb_H) (bc : Nat) (bs : Nat) (Qr : xb_H → Nat → Nat → Prop) (Qt : String → xb_H → Nat → Nat → Prop) : Prop :=
    (∃ n8 : Nat, w_Reader_readExpression_L6 Qr Qt n8 x0 0 0 0 h bc bs)


def w_Reader_readLimits_L46 (Qr : xb_H → Nat → Nat → Prop) (Qt : String → xb_H → Nat → Nat → Prop) (y0 : Int64) (y1 : Nat) (h : xb_H) (bc : Nat) (bs : Nat) : Prop :=
    xb_k h y1 = 2 ∧ w_Row_add y1 y0 h bc bs (fun (h2 : xb_H) (bc3 bs3 : Nat) => xb_ext h h2 → Qr h2 bc3 bs3)

def w_Reader_readLimits (x0 : Nat) (x1 : Nat) (x2 : Int32) (h : xb_H) (bc : Nat) (bs : Nat) (Qr : xb_H → Nat → Nat → Prop) (Qt : String → xb_H → Nat → Nat → Prop) : Prop :=
    xb_k h x0 = 4 ∧ w_Reader_byteUpTo x0 1 h bc bs (fun (r3 : Int32) (h2 : xb_H) (bc3 bs3 : Nat) => xb_ext h h2 → xb_k h2 x1 = 2 ∧ w_Row_add x1 (Int32.toInt64 x2) h2 bc3 bs3 (fun (h5 : xb_H) (bc6 bs6 : Nat) => xb_ext h2 h5 → w_Reader_count x0 h5 bc6 bs6 (fun (r8 : Int32) (h7 : xb_H) (bc8 bs8 : Nat) => xb_ext h5 h7 → w_Row_add x1 ((Int32.toInt64 r8) &&& 4294967295) h7 bc8 bs8 (fun (h9 : xb_H) (bc10 bs10 : Nat) => xb_ext h7 h9 → ((¬ r3 = (1 : Int32) → w_Reader_readLimits_L46 Qr Qt (-1) x1 h9 bc10 bs10) ∧ (r3 = (1 : Int32) → w_Reader_count x0 h9 bc10 bs10 (fun (r13 : Int32) (h12 : xb_H) (bc13 bs13 : Nat) => xb_ext h9 h12 → w_Reader_readLimits_L46 Qr Qt ((Int32.toInt64 r13) &&& 4294967295) x1 h12 bc13 bs13) Qt)))) Qt)) Qt


def w_Reader_readLocals_L63 (K15 : Nat → Int64 → Int64 → Int64 → xb_H → Nat → Nat → Prop) (Qr : Int32 → xb_H → Nat → Nat → Prop) (Qt : String → xb_H → Nat → Nat → Prop) (x0 : Nat) (x1 : Int64) (x3 : Int64) (x5 : Int64) (x8 : Int64) (h : xb_H) (bc : Nat) (bs : Nat) : Prop :=
    xb_k h x0 = 4 ∧ ∃ b2 : Nat, (xb_r h x0 0) = some b2 ∧ xb_k h b2 = 3 ∧ ∃ b4 : Nat, (xb_r h b2 12) = some b4 ∧ xb_k h b4 = 2 ∧ w_Row_add b4 x8 h bc bs (fun (h6 : xb_H) (bc7 bs7 : Nat) => xb_ext h h6 → ∃ b8 : Nat, (xb_r h6 x0 0) = some b8 ∧ xb_k h6 b8 = 3 ∧ ∃ b10 : Nat, (xb_r h6 b8 12) = some b10 ∧ w_Reader_valueType x0 h6 bc7 bs7 (fun (r12 : Int32) (h11 : xb_H) (bc12 bs12 : Nat) => xb_ext h6 h11 → xb_k h11 b10 = 2 ∧ w_Row_add b10 (Int32.toInt64 r12) h11 bc12 bs12 (fun (h14 : xb_H) (bc15 bs15 : Nat) => xb_ext h11 h14 → ∀ v16 : Int64, v16 = (x5 + 1) → K15 x0 x1 x3 v16 h14 bc15 bs15)) Qt)

def w_Reader_readLocals_L15 (Qr : Int32 → xb_H → Nat → Nat → Prop) (Qt : String → xb_H → Nat → Nat → Prop) : Nat → Nat → Int64 → Int64 → Int64 → xb_H → Nat → Nat → Prop
  | 0, _, _, _, _, _, _, _ => False
  | n9 + 1, x0, x1, x3, x5, h, bc, bs =>
    ((x1 ≤ x5 → Qr (Int64.toInt32 x3) h bc bs) ∧ (¬ x1 ≤ x5 → xb_k h x0 = 4 ∧ ∀ v3 : Int32, v3 = (xb_i h x0 3) → w_Reader_count x0 h bc bs (fun (r5 : Int32) (h4 : xb_H) (bc5 bs5 : Nat) => xb_ext h h4 → ∀ v6 : Int64, v6 = ((Int32.toInt64 r5) &&& 4294967295) → ∀ v7 : Int64, v7 = (x3 + v6) → ((v7 ≤ (1000 : Int64) → w_Reader_readLocals_L63 (w_Reader_readLocals_L15 Qr Qt n9) Qr Qt x0 x1 v7 x5 v6 h4 bc5 bs5) ∧ (¬ v7 ≤ (1000 : Int64) → ∃ b9 : Nat, (xb_r h4 x0 0) = some b9 ∧ xb_k h4 b9 = 3 ∧ w_StackModule_fail b9 9 v3 h4 bc5 bs5 (fun (h11 : xb_H) (bc12 bs12 : Nat) => xb_ext h4 h11 → w_Reader_readLocals_L63 (w_Reader_readLocals_L15 Qr Qt n9) Qr Qt x0 x1 v7 x5 v6 h11 bc12 bs12) Qt))) Qt))

def w_Reader_readLocals (x0 : Nat) (h : xb_H) (bc : Nat) (bs : Nat) (Qr : Int32 → xb_H → Nat → Nat → Prop) (Qt : String → xb_H → Nat → Nat → Prop) : Prop :=
    xb_k h x0 = 4 ∧ w_Reader_count x0 h bc bs (fun (r3 : Int32) (h2 : xb_H) (bc3 bs3 : Nat) => xb_ext h h2 → ∀ v4 : Int64, v4 = ((Int32.toInt64 r3) &&& 4294967295) → (∃ n8 : Nat, w_Reader_readLocals_L15 Qr Qt n8 x0 v4 0 0 h2 bc3 bs3)) Qt


def w_Reader_readTypes_L18 (Qr : Int32 → xb_H → Nat → Nat → Prop) (Qt : String → xb_H → Nat → Nat → Prop) : Nat → Nat → Int64 → Int32 → Int64 → xb_H → Nat → Nat → Prop
  | 0, _, _, _, _, _, _, _ => False
  | n9 + 1, x0, x1, x3, x4, h, bc, bs =>
    ((x1 ≤ x4 → xb_k h x0 = 4 ∧ Qr ((xb_i h x0 3) - x3) h bc bs) ∧ (¬ x1 ≤ x4 → xb_k h x0 = 4 ∧ w_Reader_valueType x0 h bc bs (fun (r5 : Int32) (h4 : xb_H) (bc5 bs5 : Nat) => xb_ext h h4 → ∀ v6 : Int64, v6 = (x4 + 1) → w_Reader_readTypes_L18 Qr Qt n9 x0 x1 x3 v6 h4 bc5 bs5) Qt))

def w_Reader_readTypes (x0 : Nat) (h : xb_H) (bc : Nat) (bs : Nat) (Qr : Int32 → xb_H → Nat → Nat → Prop) (Qt : String → xb_H → Nat → Nat → Prop) : Prop :=
    xb_k h x0 = 4 ∧ w_Reader_count x0 h bc bs (fun (r3 : Int32) (h2 : xb_H) (bc3 bs3 : Nat) => xb_ext h h2 → ∀ v4 : Int64, v4 = ((Int32.toInt64 r3) &&& 4294967295) → ∀ v5 : Int32, v5 = (xb_i h2 x0 3) → (∃ n8 : Nat, w_Reader_readTypes_L18 Qr Qt n8 x0 v4 v5 0 h2 bc3 bs3)) Qt


def w_Reader_readVariableType (x0 : Nat) (x1 : Int32) (h : xb_H) (bc : Nat) (bs : Nat) (Qr : xb_H → Nat → Nat → Prop) (Qt : String → xb_H → Nat → Nat → Prop) : Prop :=
    xb_k h x0 = 4 ∧ ∃ b2 : Nat, (xb_r h x0 0) = some b2 ∧ xb_k h b2 = 3 ∧ ∃ b4 : Nat, (xb_r h b2 7) = some b4 ∧ xb_k h b4 = 2 ∧ w_Row_add b4 (Int32.toInt64 x1) h bc bs (fun (h6 : xb_H) (bc7 bs7 : Nat) => xb_ext h h6 → ∃ b8 : Nat, (xb_r h6 x0 0) = some b8 ∧ xb_k h6 b8 = 3 ∧ ∃ b10 : Nat, (xb_r h6 b8 7) = some b10 ∧ w_Reader_valueType x0 h6 bc7 bs7 (fun (r12 : Int32) (h11 : xb_H) (bc12 bs12 : Nat) => xb_ext h6 h11 → xb_k h11 b10 = 2 ∧ w_Row_add b10 (Int32.toInt64 r12) h11 bc12 bs12 (fun (h14 : xb_H) (bc15 bs15 : Nat) => xb_ext h11 h14 → ∃ b16 : Nat, (xb_r h14 x0 0) = some b16 ∧ xb_k h14 b16 = 3 ∧ ∃ b18 : Nat, (xb_r h14 b16 7) = some b18 ∧ w_Reader_byteUpTo x0 1 h14 bc15 bs15 (fun (r20 : Int32) (h19 : xb_H) (bc20 bs20 : Nat) => xb_ext h14 h19 → xb_k h19 b18 = 2 ∧ w_Row_add b18 (Int32.toInt64 r20) h19 bc20 bs20 (fun (h22 : xb_H) (bc23 bs23 : Nat) => xb_ext h19 h22 → Qr h22 bc23 bs23)) Qt)) Qt)


def w_World_addName_L33 (Qr : xb_H → Nat → Nat → Prop) (x0 : Nat) (x1 : Int32) (x2 : Nat) (x3 : Int32) (h : xb_H) (bc : Nat) (bs : Nat) : Prop :=
    xb_k h x0 = 7 ∧ ∃ b2 : Nat, (xb_r h x0 10) = some b2 ∧ xb_k h x2 = 100 ∧ xb_k h b2 = 100 ∧ (¬ 0 < (0 : Int32) ∧ ¬ (xb_i h x0 11) < (0 : Int32) ∧ ¬ x3 < (0 : Int32) ∧ (Int32.toNatClampNeg 0) + (Int32.toNatClampNeg x3) ≤ xb_n h x2 ∧ (Int32.toNatClampNeg (xb_i h x0 11)) + (Int32.toNatClampNeg x3) ≤ xb_n h b2) ∧ ∀ h6 : xb_H, h6 = xb_Ia h b2 (va_cpy (xb_i h x2) (xb_i h b2) (Int32.toNatClampNeg 0) (Int32.toNatClampNeg (xb_i h x0 11)) (Int32.toNatClampNeg x3)) → ∃ b7 : Nat, (xb_r h6 x0 9) = some b7 ∧ xb_k h6 b7 = 2 ∧ w_Row_add b7 (Int32.toInt64 (xb_i h6 x0 11)) h6 bc bs (fun (h9 : xb_H) (bc10 bs10 : Nat) => xb_ext h6 h9 → ∃ b11 : Nat, (xb_r h9 x0 9) = some b11 ∧ xb_k h9 b11 = 2 ∧ w_Row_add b11 (Int32.toInt64 x3) h9 bc10 bs10 (fun (h13 : xb_H) (bc14 bs14 : Nat) => xb_ext h9 h13 → ∃ b15 : Nat, (xb_r h13 x0 9) = some b15 ∧ xb_k h13 b15 = 2 ∧ w_Row_add b15 (Int32.toInt64 x1) h13 bc14 bs14 (fun (h17 : xb_H) (bc18 bs18 : Nat) => xb_ext h13 h17 → ∀ h19 : xb_H, h19 = xb_I h17 x0 11 ((xb_i h17 x0 11) + x3) → Qr h19 bc18 bs18)))

def w_World_addName (x0 : Nat) (x1 : Int32) (x2 : Nat) (x3 : Int32) (h : xb_H) (bc : Nat) (bs : Nat) (Qr : xb_H → Nat → Nat → Prop) : Prop :=
    xb_k h x0 = 7 ∧ ∃ b2 : Nat, (xb_r h x0 10) = some b2 ∧ xb_k h b2 = 100 ∧ ((((xb_i h x0 11) + x3) ≤ (nI (xb_n h b2)) → w_World_addName_L33 Qr x0 x1 x2 x3 h bc bs) ∧ (¬ ((xb_i h x0 11) + x3) ≤ (nI (xb_n h b2)) → ∃ b5 : Nat, (xb_r h x0 10) = some b5 ∧ w_Arrays_copyOf0 b5 (2 * ((xb_i h x0 11) + x3)) h bc bs (fun (r7 : Nat) (h6 : xb_H) (bc7 bs7 : Nat) => xb_ext h h6 → ∀ h8 : xb_H, h8 = xb_P h6 x0 10 (some r7) → w_World_addName_L33 Qr x0 x1 x2 x3 h8 bc7 bs7)))


def w_World_grow_L82 (Qr : Int32 → xb_H → Nat → Nat → Prop) : Nat → Nat → Nat → Int64 → Int32 → Int32 → xb_H → Nat → Nat → Prop
  | 0, _, _, _, _, _, _, _, _ => False
  | n9 + 1, x0, x1, x2, x6, x7, h, bc, bs =>
    ((x2 ≤ (Int32.toInt64 x7) → xb_k h x1 = 13 ∧ ∀ h3 : xb_H, h3 = xb_I h x1 3 (x6 + (Int64.toInt32 x2)) → Qr x6 h3 bc bs) ∧ (¬ x2 ≤ (Int32.toInt64 x7) → xb_k h x1 = 13 ∧ ∃ b5 : Nat, (xb_r h x1 2) = some b5 ∧ xb_k h x0 = 7 ∧ w_World_usedPages x0 h (fun (r8 : Int32) (h7 : xb_H) => xb_ext h h7 → xb_k h7 b5 = 102 ∧ vp_in (x6 + x7) (xb_n h7 b5) ∧ ∀ h11 : xb_H, h11 = xb_I h7 b5 (Int32.toNatClampNeg (x6 + x7)) r8 → ∃ b12 : Nat, (xb_r h11 x0 5) = some b12 ∧ xb_k h11 b12 = 2 ∧ w_Row_addMany b12 8192 0 h11 bc bs (fun (h14 : xb_H) (bc15 bs15 : Nat) => xb_ext h11 h14 → w_World_grow_L82 Qr n9 x0 x1 x2 x6 (x7 + 1) h14 bc15 bs15))))

def w_World_grow_L50 (Qr : Int32 → xb_H → Nat → Nat → Prop) (h : xb_H) (bc : Nat) (bs : Nat) : Prop :=
    Qr (-1) h bc bs

def w_World_grow_L21 (Qr : Int32 → xb_H → Nat → Nat → Prop) (x0 : Nat) (x1 : Nat) (x2 : Int64) (y0 : Int64) (h : xb_H) (bc : Nat) (bs : Nat) : Prop :=
    xb_k h x1 = 13 ∧ ((y0 < ((Int32.toInt64 (xb_i h x1 3)) + x2) → w_World_grow_L50 Qr h bc bs) ∧ (¬ y0 < ((Int32.toInt64 (xb_i h x1 3)) + x2) → xb_k h x0 = 7 ∧ w_World_usedPages x0 h (fun (r5 : Int32) (h4 : xb_H) => xb_ext h h4 → ((((Int32.toInt64 r5) + x2) ≤ (16 : Int64) → ∀ v7 : Int32, v7 = (xb_i h4 x1 3) → ∃ b8 : Nat, (xb_r h4 x0 5) = some b8 ∧ ∃ b9 : Nat, (xb_r h4 x0 5) = some b9 ∧ xb_k h4 b9 = 2 ∧ xb_k h4 b8 = 2 ∧ w_Row_makeRoom b8 ((xb_i h4 b9 1) + ((Int64.toInt32 x2) * 8192)) h4 bc bs (fun (h12 : xb_H) (bc13 bs13 : Nat) => xb_ext h4 h12 → (∃ n8 : Nat, w_World_grow_L82 Qr n8 x0 x1 x2 v7 0 h12 bc13 bs13))) ∧ (¬ ((Int32.toInt64 r5) + x2) ≤ (16 : Int64) → w_World_grow_L50 Qr h4 bc bs)))))

def w_World_grow (x0 : Nat) (x1 : Nat) (x2 : Int64) (h : xb_H) (bc : Nat) (bs : Nat) (Qr : Int32 → xb_H → Nat → Nat → Prop) : Prop :=
    xb_k h x1 = 13 ∧ ((¬ (xb_l h x1 1) = ((-1) : Int64) → w_World_grow_L21 Qr x0 x1 x2 (xb_l h x1 1) h bc bs) ∧ ((xb_l h x1 1) = ((-1) : Int64) → w_World_grow_L21 Qr x0 x1 x2 65536 h bc bs))


def w_World_lookUpAtHost_L54 (K5 : Nat → Nat → Int32 → Int32 → Int32 → xb_H → Nat → Nat → Prop) (Qr : Int32 → xb_H → Nat → Nat → Prop) (x0 : Nat) (x1 : Nat) (x2 : Int32) (x3 : Int32) (x4 : Int32) (h : xb_H) (bc : Nat) (bs : Nat) : Prop :=
    K5 x0 x1 x2 x3 (x4 + 1) h bc bs

def w_World_lookUpAtHost_L5 (Qr : Int32 → xb_H → Nat → Nat → Prop) : Nat → Nat → Nat → Int32 → Int32 → Int32 → xb_H → Nat → Nat → Prop
  | 0, _, _, _, _, _, _, _, _ => False
  | n9 + 1, x0, x1, x2, x3, x4, h, bc, bs =>
    (((4 : Int32) ≤ x4 → ((¬ x3 = ((-1) : Int32) → xb_k h x1 = 3 ∧ ∃ b5 : Nat, (xb_r h x1 3) = some b5 ∧ xb_k h b5 = 2 ∧ w_Row_at b5 x2 1 h (fun (r8 : Int32) (h7 : xb_H) => xb_ext h h7 → ((r8 = (0 : Int32) → ∃ b10 : Nat, (xb_r h7 x1 3) = some b10 ∧ xb_k h7 b10 = 2 ∧ w_Row_at b10 x2 2 h7 (fun (r13 : Int32) (h12 : xb_H) => xb_ext h7 h12 → w_StackModule_typeOf x1 r13 h12 (fun (r15 : Int32) (h14 : xb_H) => xb_ext h12 h14 → xb_k h14 x0 = 7 ∧ w_World_fits x0 (8192 + x3) x1 r15 h14 (fun (r18 : Int32) (h17 : xb_H) => xb_ext h14 h17 → ((¬ r18 = (0 : Int32) → ∃ b20 : Nat, (xb_r h17 x0 12) = some b20 ∧ xb_k h17 b20 = 2 ∧ w_Row_add b20 (Int32.toInt64 (8192 + x3)) h17 bc bs (fun (h22 : xb_H) (bc23 bs23 : Nat) => xb_ext h17 h22 → Qr 0 h22 bc23 bs23)) ∧ (r18 = (0 : Int32) → Qr 43 h17 bc bs)))))) ∧ (¬ r8 = (0 : Int32) → Qr 43 h7 bc bs)))) ∧ (x3 = ((-1) : Int32) → Qr 42 h bc bs))) ∧ (¬ (4 : Int32) ≤ x4 → xb_k h x1 = 3 ∧ ∃ b25 : Nat, (xb_r h x1 3) = some b25 ∧ xb_k h b25 = 2 ∧ w_Row_at b25 x2 6 h (fun (r28 : Int32) (h27 : xb_H) => xb_ext h h27 → ((¬ r28 = (1 : Int32) → w_World_lookUpAtHost_L54 (w_World_lookUpAtHost_L5 Qr n9) Qr x0 x1 x2 x3 x4 h27 bc bs) ∧ (r28 = (1 : Int32) → ∃ b30 : Nat, (xb_r h27 x1 0) = some b30 ∧ ∃ b31 : Nat, (xb_r h27 x1 3) = some b31 ∧ xb_k h27 b31 = 2 ∧ w_Row_at b31 x2 5 h27 (fun (r34 : Int32) (h33 : xb_H) => xb_ext h27 h33 → xb_k h33 b30 = 100 ∧ vp_in r34 (xb_n h33 b30) ∧ vp_in x4 4 ∧ ((¬ (xb_i h33 b30 (Int32.toNatClampNeg r34)) = (xb_cHX.getD (Int32.toNatClampNeg x4) 0) → w_World_lookUpAtHost_L54 (w_World_lookUpAtHost_L5 Qr n9) Qr x0 x1 x2 x3 x4 h33 bc bs) ∧ ((xb_i h33 b30 (Int32.toNatClampNeg r34)) = (xb_cHX.getD (Int32.toNatClampNeg x4) 0) → w_World_lookUpAtHost_L54 (w_World_lookUpAtHost_L5 Qr n9) Qr x0 x1 x2 x4 x4 h33 bc bs))))))))

def w_World_lookUpAtHost (x0 : Nat) (x1 : Nat) (x2 : Int32) (h : xb_H) (bc : Nat) (bs : Nat) (Qr : Int32 → xb_H → Nat → Nat → Prop) : Prop :=
    (∃ n8 : Nat, w_World_lookUpAtHost_L5 Qr n8 x0 x1 x2 (-1) 0 h bc bs)


def w_World_rowBeyond_L3 (Qr : Int32 → xb_H → Prop) : Nat → Nat → Nat → Nat → Int64 → Int32 → xb_H → Prop
  | 0, _, _, _, _, _, _ => False
  | n9 + 1, x0, x1, x2, x3, x5, h =>
    xb_k h x2 = 2 ∧ w_Row_lines x2 h (fun (r3 : Int32) (h2 : xb_H) => xb_ext h h2 → ((r3 ≤ x5 → Qr (-1) h2) ∧ (¬ r3 ≤ x5 → xb_k h2 x0 = 7 ∧ w_World_offsetOf x0 x1 x2 x5 h2 (fun (r7 : Int64) (h6 : xb_H) => xb_ext h2 h6 → w_Row_longAt x2 x5 4 h6 (fun (r9 : Int64) (h8 : xb_H) => xb_ext h6 h8 → (((r7 + r9) ≤ x3 → w_World_rowBeyond_L3 Qr n9 x0 x1 x2 x3 (x5 + 1) h8) ∧ (¬ (r7 + r9) ≤ x3 → Qr x5 h8)))))))

def w_World_rowBeyond (x0 : Nat) (x1 : Nat) (x2 : Nat) (x3 : Int64) (h : xb_H) (Qr : Int32 → xb_H → Prop) : Prop :=
    (∃ n8 : Nat, w_World_rowBeyond_L3 Qr n8 x0 x1 x2 x3 0 h)


def w_World_takeOver_L173 (Qr : Int32 → xb_H → Nat → Nat → Prop) (y0 : Int32) (h : xb_H) (bc : Nat) (bs : Nat) : Prop :=
    (y0 = 0 ∨ y0 = 1) ∧ Qr y0 h bc bs

def w_World_takeOver_L172 (Qr : Int32 → xb_H → Nat → Nat → Prop) (h : xb_H) (bc : Nat) (bs : Nat) : Prop :=
    w_World_takeOver_L173 Qr 0 h bc bs

def w_World_takeOver_L126 (Qr : Int32 → xb_H → Nat → Nat → Prop) (y0 : Int32) (h : xb_H) (bc : Nat) (bs : Nat) : Prop :=
    (y0 = 0 ∨ y0 = 1) ∧ Qr y0 h bc bs

def w_World_takeOver_L125 (Qr : Int32 → xb_H → Nat → Nat → Prop) (h : xb_H) (bc : Nat) (bs : Nat) : Prop :=
    w_World_takeOver_L126 Qr 0 h bc bs

def w_World_takeOver (x0 : Nat) (x1 : Nat) (x2 : Int32) (x3 : Nat) (x4 : Int32) (h : xb_H) (bc : Nat) (bs : Nat) (Qr : Int32 → xb_H → Nat → Nat → Prop) : Prop :=
    xb_k h x1 = 3 ∧ ∃ b2 : Nat, (xb_r h x1 3) = some b2 ∧ xb_k h b2 = 2 ∧ w_Row_at b2 x2 2 h (fun (r5 : Int32) (h4 : xb_H) => xb_ext h h4 → ∃ b6 : Nat, (xb_r h4 x1 3) = some b6 ∧ xb_k h4 b6 = 2 ∧ w_Row_at b6 x2 1 h4 (fun (r9 : Int32) (h8 : xb_H) => xb_ext h4 h8 → ((r9 = 0 → xb_k h8 x0 = 7 ∧ ∃ b12 : Nat, (xb_r h8 x0 12) = some b12 ∧ xb_k h8 x3 = 11 ∧ w_Instance_functionId x3 x4 h8 (fun (r15 : Int32) (h14 : xb_H) => xb_ext h8 h14 → xb_k h14 b12 = 2 ∧ w_Row_add b12 (Int32.toInt64 r15) h14 bc bs (fun (h17 : xb_H) (bc18 bs18 : Nat) => xb_ext h14 h17 → w_Instance_functionId x3 x4 h17 (fun (r20 : Int32) (h19 : xb_H) => xb_ext h17 h19 → w_StackModule_typeOf x1 r5 h19 (fun (r22 : Int32) (h21 : xb_H) => xb_ext h19 h21 → w_World_fits x0 r20 x1 r22 h21 (fun (r24 : Int32) (h23 : xb_H) => xb_ext h21 h23 → (r24 = 0 ∨ r24 = 1) ∧ Qr r24 h23 bc18 bs18)))))) ∧ (r9 = 1 → xb_k h8 x3 = 11 ∧ xb_k h8 x0 = 7 ∧ ∀ h28 : xb_H, h28 = xb_P h8 x0 14 (xb_r h8 x3 6) → (((xb_r h28 x0 14) = none → w_World_takeOver_L125 Qr h28 bc bs) ∧ (∀ b29 : Nat, (xb_r h28 x0 14) = some b29 → ∃ b30 : Nat, (xb_r h28 x1 5) = some b30 ∧ ∃ b31 : Nat, (xb_r h28 x0 14) = some b31 ∧ xb_k h28 b31 = 12 ∧ ∃ b33 : Nat, (xb_r h28 x0 14) = some b33 ∧ xb_k h28 b33 = 12 ∧ w_World_isWithin b30 r5 (xb_i h28 b31 1) (xb_l h28 b33 2) h28 (fun (r36 : Int32) (h35 : xb_H) => xb_ext h28 h35 → ((r36 = (0 : Int32) → w_World_takeOver_L125 Qr h35 bc bs) ∧ (¬ r36 = (0 : Int32) → w_World_takeOver_L126 Qr 1 h35 bc bs)))))) ∧ (r9 = 2 → xb_k h8 x3 = 11 ∧ xb_k h8 x0 = 7 ∧ ∀ h41 : xb_H, h41 = xb_P h8 x0 15 (xb_r h8 x3 7) → (((xb_r h41 x0 15) = none → w_World_takeOver_L172 Qr h41 bc bs) ∧ (∀ b42 : Nat, (xb_r h41 x0 15) = some b42 → ∃ b43 : Nat, (xb_r h41 x1 6) = some b43 ∧ ∃ b44 : Nat, (xb_r h41 x0 15) = some b44 ∧ xb_k h41 b44 = 13 ∧ ∃ b46 : Nat, (xb_r h41 x0 15) = some b46 ∧ xb_k h41 b46 = 13 ∧ w_World_isWithin b43 r5 (xb_i h41 b44 3) (xb_l h41 b46 1) h41 (fun (r49 : Int32) (h48 : xb_H) => xb_ext h41 h48 → ((r49 = (0 : Int32) → w_World_takeOver_L172 Qr h48 bc bs) ∧ (¬ r49 = (0 : Int32) → w_World_takeOver_L173 Qr 1 h48 bc bs)))))) ∧ (¬ r9 = 0 → ¬ r9 = 1 → ¬ r9 = 2 → xb_k h8 x0 = 7 ∧ ∃ b52 : Nat, (xb_r h8 x0 13) = some b52 ∧ xb_k h8 x3 = 11 ∧ w_Instance_variableId x3 x4 h8 (fun (r55 : Int32) (h54 : xb_H) => xb_ext h8 h54 → xb_k h54 b52 = 2 ∧ w_Row_add b52 (Int32.toInt64 r55) h54 bc bs (fun (h57 : xb_H) (bc58 bs58 : Nat) => xb_ext h54 h57 → ∃ b59 : Nat, (xb_r h57 x3 1) = some b59 ∧ w_World_sameVariable x1 r5 b59 x4 h57 (fun (r61 : Int32) (h60 : xb_H) => xb_ext h57 h60 → (r61 = 0 ∨ r61 = 1) ∧ Qr r61 h60 bc58 bs58)))))))


def w_World_writeData_L45 (K7 : Nat → Nat → Nat → Int32 → xb_H → Prop) (Qr : xb_H → Prop) : Nat → Nat → Nat → Nat → Int32 → Int32 → Int32 → Int32 → xb_H → Prop
  | 0, _, _, _, _, _, _, _, _ => False
  | n9 + 1, x0, x1, x2, x3, x4, x5, x6, h =>
    xb_k h x2 = 3 ∧ ∃ b2 : Nat, (xb_r h x2 13) = some b2 ∧ xb_k h b2 = 2 ∧ w_Row_at b2 x3 4 h (fun (r5 : Int32) (h4 : xb_H) => xb_ext h h4 → ((r5 ≤ x6 → K7 x0 x1 x2 (x3 + 1) h4) ∧ (¬ r5 ≤ x6 → xb_k h4 x1 = 11 ∧ ∃ b8 : Nat, (xb_r h4 x1 7) = some b8 ∧ ∃ b9 : Nat, (xb_r h4 x2 0) = some b9 ∧ xb_k h4 b9 = 100 ∧ vp_in (x5 + x6) (xb_n h4 b9) ∧ xb_k h4 b8 = 13 ∧ w_Memory_setByte b8 (x4 + x6) (xb_i h4 b9 (Int32.toNatClampNeg (x5 + x6))) h4 (fun (h13 : xb_H) => xb_ext h4 h13 → w_World_writeData_L45 K7 Qr n9 x0 x1 x2 x3 x4 x5 (x6 + 1) h13))))

def w_World_writeData_L7 (Qr : xb_H → Prop) : Nat → Nat → Nat → Nat → Int32 → xb_H → Prop
  | 0, _, _, _, _, _ => False
  | n9 + 1, x0, x1, x2, x3, h =>
    xb_k h x2 = 3 ∧ ∃ b2 : Nat, (xb_r h x2 13) = some b2 ∧ xb_k h b2 = 2 ∧ w_Row_lines b2 h (fun (r5 : Int32) (h4 : xb_H) => xb_ext h h4 → ((r5 ≤ x3 → Qr h4) ∧ (¬ r5 ≤ x3 → ∃ b7 : Nat, (xb_r h4 x2 13) = some b7 ∧ xb_k h4 x0 = 7 ∧ w_World_offsetOf x0 x2 b7 x3 h4 (fun (r10 : Int64) (h9 : xb_H) => xb_ext h4 h9 → ∀ v11 : Int32, v11 = (Int64.toInt32 r10) → ∃ b12 : Nat, (xb_r h9 x2 13) = some b12 ∧ xb_k h9 b12 = 2 ∧ w_Row_at b12 x3 3 h9 (fun (r15 : Int32) (h14 : xb_H) => xb_ext h9 h14 → (∃ n8 : Nat, w_World_writeData_L45 (w_World_writeData_L7 Qr n9) Qr n8 x0 x1 x2 x3 v11 r15 0 h14))))))

def w_World_writeData (x0 : Nat) (x1 : Nat) (h : xb_H) (Qr : xb_H → Prop) : Prop :=
    xb_k h x1 = 11 ∧ ∃ b2 : Nat, (xb_r h x1 1) = some b2 ∧ (∃ n8 : Nat, w_World_writeData_L7 Qr n8 x0 x1 b2 0 h)


def w_World_writeElements_L53 (K7 : Nat → Nat → Nat → Int32 → xb_H → Prop) (Qr : xb_H → Prop) : Nat → Nat → Nat → Nat → Int32 → Int32 → Int32 → Int32 → xb_H → Prop
  | 0, _, _, _, _, _, _, _, _ => False
  | n9 + 1, x0, x1, x2, x3, x4, x5, x6, h =>
    xb_k h x2 = 3 ∧ ∃ b2 : Nat, (xb_r h x2 9) = some b2 ∧ xb_k h b2 = 2 ∧ w_Row_at b2 x3 4 h (fun (r5 : Int32) (h4 : xb_H) => xb_ext h h4 → ((r5 ≤ x6 → K7 x0 x1 x2 (x3 + 1) h4) ∧ (¬ r5 ≤ x6 → ∃ b7 : Nat, (xb_r h4 x2 10) = some b7 ∧ xb_k h4 b7 = 2 ∧ w_Row_at b7 (x5 + x6) 1 h4 (fun (r10 : Int32) (h9 : xb_H) => xb_ext h4 h9 → xb_k h9 x0 = 7 ∧ ∃ b12 : Nat, (xb_r h9 x0 4) = some b12 ∧ xb_k h9 b12 = 2 ∧ ∃ b14 : Nat, (xb_r h9 b12 0) = some b14 ∧ xb_k h9 x1 = 11 ∧ w_Instance_functionId x1 r10 h9 (fun (r17 : Int32) (h16 : xb_H) => xb_ext h9 h16 → xb_k h16 b14 = 103 ∧ vp_in (x4 + x6) (xb_n h16 b14) ∧ ∀ h20 : xb_H, h20 = xb_L h16 b14 (Int32.toNatClampNeg (x4 + x6)) (Int32.toInt64 r17) → w_World_writeElements_L53 K7 Qr n9 x0 x1 x2 x3 x4 x5 (x6 + 1) h20)))))

def w_World_writeElements_L7 (Qr : xb_H → Prop) : Nat → Nat → Nat → Nat → Int32 → xb_H → Prop
  | 0, _, _, _, _, _ => False
  | n9 + 1, x0, x1, x2, x3, h =>
    xb_k h x2 = 3 ∧ ∃ b2 : Nat, (xb_r h x2 9) = some b2 ∧ xb_k h b2 = 2 ∧ w_Row_lines b2 h (fun (r5 : Int32) (h4 : xb_H) => xb_ext h h4 → ((r5 ≤ x3 → Qr h4) ∧ (¬ r5 ≤ x3 → xb_k h4 x1 = 11 ∧ ∃ b8 : Nat, (xb_r h4 x1 6) = some b8 ∧ xb_k h4 b8 = 12 ∧ ∃ b10 : Nat, (xb_r h4 x2 9) = some b10 ∧ xb_k h4 x0 = 7 ∧ w_World_offsetOf x0 x2 b10 x3 h4 (fun (r13 : Int64) (h12 : xb_H) => xb_ext h4 h12 → ∀ v14 : Int32, v14 = ((xb_i h4 b8 0) + (Int64.toInt32 r13)) → ∃ b15 : Nat, (xb_r h12 x2 9) = some b15 ∧ xb_k h12 b15 = 2 ∧ w_Row_at b15 x3 3 h12 (fun (r18 : Int32) (h17 : xb_H) => xb_ext h12 h17 → (∃ n8 : Nat, w_World_writeElements_L53 (w_World_writeElements_L7 Qr n9) Qr n8 x0 x1 x2 x3 v14 r18 0 h17))))))

def w_World_writeElements (x0 : Nat) (x1 : Nat) (h : xb_H) (Qr : xb_H → Prop) : Prop :=
    xb_k h x1 = 11 ∧ ∃ b2 : Nat, (xb_r h x1 1) = some b2 ∧ (∃ n8 : Nat, w_World_writeElements_L7 Qr n8 x0 x1 b2 0 h)


def w_Law_element (x0 : Nat) (x1 : Int32) (x2 : Int32) (x3 : Nat) (h : xb_H) (bc : Nat) (bs : Nat) (Qr : Int32 → xb_H → Nat → Nat → Prop) : Prop :=
    xb_k h x0 = 1 ∧ w_H_element x0 x1 x2 h bc bs (fun (r3 : Int32) (h2 : xb_H) (bc3 bs3 : Nat) => xb_ext h h2 → xb_k h2 x3 = 103 ∧ vp_in 0 (xb_n h2 x3) ∧ ∀ h6 : xb_H, h6 = xb_L h2 x3 (Int32.toNatClampNeg 0) (Int32.toInt64 r3) → Qr 0 h6 bc3 bs3) (fun (XX : String) (h2 : xb_H) (bc3 bs3 : Nat) => xb_ext h h2 → ∀ ax : Nat, (XX = "java/lang/IndexOutOfBoundsException" ∧ Qr 1 h2 bc3 bs3))


def w_Law_exported (x0 : Nat) (x1 : Int32) (x2 : Int32) (x3 : Int32) (x4 : Nat) (h : xb_H) (bc : Nat) (bs : Nat) (Qr : Int32 → xb_H → Nat → Nat → Prop) : Prop :=
    xb_k h x0 = 1 ∧ w_H_exported x0 x1 x2 x3 h bc bs (fun (r3 : Int32) (h2 : xb_H) (bc3 bs3 : Nat) => xb_ext h h2 → xb_k h2 x4 = 103 ∧ vp_in 0 (xb_n h2 x4) ∧ ∀ h6 : xb_H, h6 = xb_L h2 x4 (Int32.toNatClampNeg 0) (Int32.toInt64 r3) → Qr 0 h6 bc3 bs3) (fun (XX : String) (h2 : xb_H) (bc3 bs3 : Nat) => xb_ext h h2 → ∀ ax : Nat, (XX = "java/lang/IndexOutOfBoundsException" ∧ Qr 1 h2 bc3 bs3))


def w_Law_peek (x0 : Nat) (x1 : Int32) (x2 : Int32) (x3 : Nat) (h : xb_H) (bc : Nat) (bs : Nat) (Qr : Int32 → xb_H → Nat → Nat → Prop) : Prop :=
    xb_k h x0 = 1 ∧ w_H_peek x0 x1 x2 h bc bs (fun (r3 : Int32) (h2 : xb_H) (bc3 bs3 : Nat) => xb_ext h h2 → xb_k h2 x3 = 103 ∧ vp_in 0 (xb_n h2 x3) ∧ ∀ h6 : xb_H, h6 = xb_L h2 x3 (Int32.toNatClampNeg 0) (Int32.toInt64 r3) → Qr 0 h6 bc3 bs3) (fun (XX : String) (h2 : xb_H) (bc3 bs3 : Nat) => xb_ext h h2 → ∀ ax : Nat, (XX = "java/lang/IndexOutOfBoundsException" ∧ Qr 1 h2 bc3 bs3))


def w_Law_poke (x0 : Nat) (x1 : Int32) (x2 : Int32) (x3 : Int32) (h : xb_H) (bc : Nat) (bs : Nat) (Qr : Int32 → xb_H → Nat → Nat → Prop) : Prop :=
    xb_k h x0 = 1 ∧ w_H_poke x0 x1 x2 x3 h bc bs (fun (h2 : xb_H) (bc3 bs3 : Nat) => xb_ext h h2 → Qr 0 h2 bc3 bs3) (fun (XX : String) (h2 : xb_H) (bc3 bs3 : Nat) => xb_ext h h2 → ∀ ax : Nat, (XX = "java/lang/IndexOutOfBoundsException" ∧ Qr 1 h2 bc3 bs3))


def w_M_checkMemory_L108 (Qr : xb_H → Prop) (h : xb_H) : Prop :=
    Qr h

def w_M_checkMemory_L87 (Qr : xb_H → Prop) (x0 : Nat) (x1 : Int32) (h : xb_H) : Prop :=
    xb_k h x0 = 9 ∧ w_M_take x0 127 h (fun (r3 : Int32) (h2 : xb_H) => xb_ext h h2 → (((54 : Int32) ≤ x1 → w_M_checkMemory_L108 Qr h2) ∧ (¬ (54 : Int32) ≤ x1 → w_M_accessType x1 h2 (fun (r6 : Int32) (h5 : xb_H) => xb_ext h2 h5 → w_M_put x0 r6 h5 (fun (h7 : xb_H) => xb_ext h5 h7 → w_M_checkMemory_L108 Qr h7)))))

def w_M_checkMemory_L67 (Qr : xb_H → Prop) (x0 : Nat) (x1 : Int32) (y0 : Int32) (y1 : Nat) (h : xb_H) : Prop :=
    xb_k h y1 = 9 ∧ w_M_need y1 y0 22 h (fun (h2 : xb_H) => xb_ext h h2 → ((x1 < (54 : Int32) → w_M_checkMemory_L87 Qr x0 x1 h2) ∧ (¬ x1 < (54 : Int32) → w_M_accessType x1 h2 (fun (r6 : Int32) (h5 : xb_H) => xb_ext h2 h5 → xb_k h5 x0 = 9 ∧ w_M_take x0 r6 h5 (fun (r9 : Int32) (h8 : xb_H) => xb_ext h5 h8 → w_M_checkMemory_L87 Qr x0 x1 h8)))))

def w_M_checkMemory_L66 (Qr : xb_H → Prop) (x0 : Nat) (x1 : Int32) (y0 : Nat) (h : xb_H) : Prop :=
    w_M_checkMemory_L67 Qr x0 x1 0 y0 h

def w_M_checkMemory_L41 (Qr : xb_H → Prop) (x0 : Nat) (x1 : Int32) (y0 : Int64) (h : xb_H) : Prop :=
    (((4 : Int64) ≤ y0 → w_M_checkMemory_L66 Qr x0 x1 x0 h) ∧ (¬ (4 : Int64) ≤ y0 → w_M_accessBytes x1 h (fun (r3 : Int32) (h2 : xb_H) => xb_ext h h2 → ((r3 < (1 <<< ((Int64.toInt32 y0) &&& 31)) → w_M_checkMemory_L66 Qr x0 x1 x0 h2) ∧ (¬ r3 < (1 <<< ((Int64.toInt32 y0) &&& 31)) → w_M_checkMemory_L67 Qr x0 x1 1 x0 h2)))))

def w_M_checkMemory_L19 (Qr : xb_H → Prop) (x0 : Nat) (h : xb_H) : Prop :=
    xb_k h x0 = 9 ∧ w_M_put x0 127 h (fun (h2 : xb_H) => xb_ext h h2 → Qr h2)

def w_M_checkMemory (x0 : Nat) (x1 : Int32) (h : xb_H) (Qr : xb_H → Prop) : Prop :=
    ((x1 < (63 : Int32) → xb_k h x0 = 9 ∧ ((¬ (xb_i h x0 17) = (0 : Int32) → w_M_checkMemory_L41 Qr x0 x1 0 h) ∧ ((xb_i h x0 17) = (0 : Int32) → w_M_count x0 h (fun (r5 : Int64) (h4 : xb_H) => xb_ext h h4 → w_M_checkMemory_L41 Qr x0 x1 r5 h4)))) ∧ (¬ x1 < (63 : Int32) → ((¬ x1 = (64 : Int32) → w_M_checkMemory_L19 Qr x0 h) ∧ (x1 = (64 : Int32) → xb_k h x0 = 9 ∧ w_M_take x0 127 h (fun (r9 : Int32) (h8 : xb_H) => xb_ext h h8 → w_M_checkMemory_L19 Qr x0 h8)))))


def w_M_checkTable_L117 (K87 : Nat → Int64 → Int32 → Int32 → Int64 → xb_H → Prop) (Qr : xb_H → Prop) (x0 : Nat) (x2 : Int64) (x4 : Int32) (x6 : Int64) (y0 : Int32) (h : xb_H) : Prop :=
    ∀ v1 : Int64, v1 = (x6 + 1) → K87 x0 x2 x4 y0 v1 h

def w_M_checkTable_L116 (K87 : Nat → Int64 → Int32 → Int32 → Int64 → xb_H → Prop) (Qr : xb_H → Prop) (x0 : Nat) (x2 : Int64) (x4 : Int32) (x6 : Int64) (h : xb_H) : Prop :=
    w_M_checkTable_L117 K87 Qr x0 x2 x4 x6 0 h

def w_M_checkTable_L87 (Qr : xb_H → Prop) : Nat → Nat → Int64 → Int32 → Int32 → Int64 → xb_H → Prop
  | 0, _, _, _, _, _, _ => False
  | n9 + 1, x0, x2, x4, x5, x6, h =>
    ((x2 < x6 → xb_k h x0 = 9 ∧ w_M_need x0 x5 21 h (fun (h3 : xb_H) => xb_ext h h3 → w_M_take x0 127 h3 (fun (r6 : Int32) (h5 : xb_H) => xb_ext h3 h5 → w_M_takeResult x0 x4 h5 (fun (h7 : xb_H) => xb_ext h5 h7 → w_M_dead x0 h7 (fun (h9 : xb_H) => xb_ext h7 h9 → Qr h9))))) ∧ (¬ x2 < x6 → xb_k h x0 = 9 ∧ w_M_count x0 h (fun (r13 : Int64) (h12 : xb_H) => xb_ext h h12 → w_M_label x0 r13 h12 (fun (r15 : Int32) (h14 : xb_H) => xb_ext h12 h14 → ((¬ r15 = x4 → w_M_checkTable_L116 (w_M_checkTable_L87 Qr n9) Qr x0 x2 x4 x6 h14) ∧ (r15 = x4 → ((x5 = (0 : Int32) → w_M_checkTable_L116 (w_M_checkTable_L87 Qr n9) Qr x0 x2 x4 x6 h14) ∧ (¬ x5 = (0 : Int32) → w_M_checkTable_L117 (w_M_checkTable_L87 Qr n9) Qr x0 x2 x4 x6 1 h14))))))))

def w_M_checkTable_L39 (K13 : Nat → Int32 → Int64 → Int64 → xb_H → Prop) (Qr : xb_H → Prop) (x0 : Nat) (x1 : Int32) (x2 : Int64) (x4 : Int64) (y0 : Int32) (y1 : Nat) (h : xb_H) : Prop :=
    xb_k h y1 = 9 ∧ w_M_need y1 y0 20 h (fun (h2 : xb_H) => xb_ext h h2 → xb_k h2 x0 = 9 ∧ (((xb_i h2 x0 17) = (0 : Int32) → ∀ v6 : Int64, v6 = (x4 + 1) → K13 x0 x1 x2 v6 h2) ∧ (¬ (xb_i h2 x0 17) = (0 : Int32) → Qr h2)))

def w_M_checkTable_L13 (Qr : xb_H → Prop) : Nat → Nat → Int32 → Int64 → Int64 → xb_H → Prop
  | 0, _, _, _, _, _ => False
  | n9 + 1, x0, x1, x2, x4, h =>
    ((x2 < x4 → xb_k h x0 = 9 ∧ ∀ h3 : xb_H, h3 = xb_I h x0 15 x1 → w_M_count x0 h3 (fun (r5 : Int64) (h4 : xb_H) => xb_ext h3 h4 → w_M_count x0 h4 (fun (r7 : Int64) (h6 : xb_H) => xb_ext h4 h6 → w_M_label x0 r7 h6 (fun (r9 : Int32) (h8 : xb_H) => xb_ext h6 h8 → (∃ n8 : Nat, w_M_checkTable_L87 Qr n8 x0 r5 r9 1 1 h8))))) ∧ (¬ x2 < x4 → xb_k h x0 = 9 ∧ w_M_count x0 h (fun (r12 : Int64) (h11 : xb_H) => xb_ext h h11 → (((Int32.toInt64 (xb_i h11 x0 29)) ≤ r12 → w_M_checkTable_L39 (w_M_checkTable_L13 Qr n9) Qr x0 x1 x2 x4 0 x0 h11) ∧ (¬ (Int32.toInt64 (xb_i h11 x0 29)) ≤ r12 → w_M_checkTable_L39 (w_M_checkTable_L13 Qr n9) Qr x0 x1 x2 x4 1 x0 h11)))))

def w_M_checkTable (x0 : Nat) (h : xb_H) (Qr : xb_H → Prop) : Prop :=
    xb_k h x0 = 9 ∧ ∀ v2 : Int32, v2 = (xb_i h x0 15) → w_M_count x0 h (fun (r4 : Int64) (h3 : xb_H) => xb_ext h h3 → (∃ n8 : Nat, w_M_checkTable_L13 Qr n8 x0 v2 r4 0 h3))


def w_M_closeOne_L39 (Qr : xb_H → Prop) (x0 : Nat) (y0 : Int32) (y1 : Nat) (h : xb_H) : Prop :=
    xb_k h y1 = 9 ∧ w_M_need y1 y0 21 h (fun (h2 : xb_H) => xb_ext h h2 → xb_k h2 x0 = 9 ∧ ∀ h5 : xb_H, h5 = xb_I h2 x0 29 ((xb_i h2 x0 29) - 1) → Qr h5)

def w_M_closeOne (x0 : Nat) (h : xb_H) (Qr : xb_H → Prop) : Prop :=
    xb_k h x0 = 9 ∧ ∃ b2 : Nat, (xb_r h x0 26) = some b2 ∧ xb_k h b2 = 102 ∧ vp_in ((xb_i h x0 29) - 1) (xb_n h b2) ∧ w_M_takeResult x0 (xb_i h b2 (Int32.toNatClampNeg ((xb_i h x0 29) - 1))) h (fun (h5 : xb_H) => xb_ext h h5 → ∃ b7 : Nat, (xb_r h5 x0 27) = some b7 ∧ xb_k h5 b7 = 102 ∧ vp_in ((xb_i h5 x0 29) - 1) (xb_n h5 b7) ∧ ((¬ (xb_i h5 x0 22) = (xb_i h5 b7 (Int32.toNatClampNeg ((xb_i h5 x0 29) - 1))) → w_M_closeOne_L39 Qr x0 0 x0 h5) ∧ ((xb_i h5 x0 22) = (xb_i h5 b7 (Int32.toNatClampNeg ((xb_i h5 x0 29) - 1))) → w_M_closeOne_L39 Qr x0 1 x0 h5)))


def w_M_constantOf_L69 (Qr : xb_H → Prop) (x0 : Nat) (x1 : Int32) (x2 : Int64) (h : xb_H) : Prop :=
    xb_k h x0 = 9 ∧ w_M_add x0 x2 (192 - x1) h (fun (h2 : xb_H) => xb_ext h h2 → Qr h2)

def w_M_constantOf_L46 (K32 : Nat → Int32 → Int64 → Int32 → xb_H → Prop) (Qr : xb_H → Prop) (x0 : Nat) (x1 : Int32) (x2 : Int64) (x4 : Int32) (y0 : Int32) (y1 : Int32) (h : xb_H) : Prop :=
    ((y0 ≤ y1 → w_M_constantOf_L69 Qr x0 x1 x2 h) ∧ (¬ y0 ≤ y1 → xb_k h x0 = 9 ∧ w_M_next x0 h (fun (r4 : Int32) (h3 : xb_H) => xb_ext h h3 → ∀ v5 : Int64, v5 = (x2 ||| (xb_lshl (Int32.toInt64 r4) (8 * x4))) → K32 x0 x1 v5 (x4 + 1) h3)))

def w_M_constantOf_L32 (Qr : xb_H → Prop) : Nat → Nat → Int32 → Int64 → Int32 → xb_H → Prop
  | 0, _, _, _, _, _ => False
  | n9 + 1, x0, x1, x2, x4, h =>
    ((¬ x1 = (67 : Int32) → w_M_constantOf_L46 (w_M_constantOf_L32 Qr n9) Qr x0 x1 x2 x4 8 x4 h) ∧ (x1 = (67 : Int32) → w_M_constantOf_L46 (w_M_constantOf_L32 Qr n9) Qr x0 x1 x2 x4 4 x4 h))

def w_M_constantOf_L22 (Qr : xb_H → Prop) (x0 : Nat) (x1 : Int32) (y0 : Int32) (y1 : Nat) (h : xb_H) : Prop :=
    xb_k h y1 = 9 ∧ w_M_signed y1 y0 h (fun (r3 : Int64) (h2 : xb_H) => xb_ext h h2 → w_M_constantOf_L69 Qr x0 x1 r3 h2)

def w_M_constantOf (x0 : Nat) (x1 : Int32) (h : xb_H) (Qr : xb_H → Prop) : Prop :=
    (((66 : Int32) < x1 → (∃ n8 : Nat, w_M_constantOf_L32 Qr n8 x0 x1 0 0 h)) ∧ (¬ (66 : Int32) < x1 → ((¬ x1 = (65 : Int32) → w_M_constantOf_L22 Qr x0 x1 64 x0 h) ∧ (x1 = (65 : Int32) → w_M_constantOf_L22 Qr x0 x1 32 x0 h))))


def w_M_isNamed_L75 (Qr : Int32 → xb_H → Prop) (x5 : Int32) (h : xb_H) : Prop :=
    (x5 = 0 ∨ x5 = 1) ∧ Qr x5 h

def w_M_isNamed_L67 (K26 : Nat → Int32 → Int32 → Int32 → Int32 → xb_H → Prop) (Qr : Int32 → xb_H → Prop) (x0 : Nat) (x3 : Int32) (x4 : Int32) (x6 : Int32) (y0 : Int32) (h : xb_H) : Prop :=
    K26 x0 x3 x4 y0 (x6 + 1) h

def w_M_isNamed_L26 (Qr : Int32 → xb_H → Prop) : Nat → Nat → Int32 → Int32 → Int32 → Int32 → xb_H → Prop
  | 0, _, _, _, _, _, _ => False
  | n9 + 1, x0, x3, x4, x5, x6, h =>
    ((x4 ≤ x6 → w_M_isNamed_L75 Qr x5 h) ∧ (¬ x4 ≤ x6 → ((x5 = (0 : Int32) → w_M_isNamed_L75 Qr x5 h) ∧ (¬ x5 = (0 : Int32) → xb_k h x0 = 9 ∧ ∃ b4 : Nat, (xb_r h x0 3) = some b4 ∧ xb_k h b4 = 100 ∧ vp_in ((xb_i h x0 15) + x6) (xb_n h b4) ∧ ∃ b7 : Nat, (xb_r h x0 3) = some b7 ∧ xb_k h b7 = 100 ∧ vp_in (x3 + x6) (xb_n h b7) ∧ ((¬ (xb_i h b4 (Int32.toNatClampNeg ((xb_i h x0 15) + x6))) = (xb_i h b7 (Int32.toNatClampNeg (x3 + x6))) → w_M_isNamed_L67 (w_M_isNamed_L26 Qr n9) Qr x0 x3 x4 x6 0 h) ∧ ((xb_i h b4 (Int32.toNatClampNeg ((xb_i h x0 15) + x6))) = (xb_i h b7 (Int32.toNatClampNeg (x3 + x6))) → w_M_isNamed_L67 (w_M_isNamed_L26 Qr n9) Qr x0 x3 x4 x6 1 h))))))

def w_M_isNamed_L21 (Qr : Int32 → xb_H → Prop) (x0 : Nat) (x3 : Int32) (x4 : Int32) (y0 : Int32) (h : xb_H) : Prop :=
    (∃ n8 : Nat, w_M_isNamed_L26 Qr n8 x0 x3 x4 y0 0 h)

def w_M_isNamed (x0 : Nat) (x1 : Int32) (x2 : Int32) (x3 : Int32) (x4 : Int32) (h : xb_H) (Qr : Int32 → xb_H → Prop) : Prop :=
    xb_k h x0 = 9 ∧ w_M_go x0 x1 x2 h (fun (h2 : xb_H) => xb_ext h h2 → w_M_count x0 h2 (fun (r5 : Int64) (h4 : xb_H) => xb_ext h2 h4 → ((¬ (Int64.toInt32 r5) = x4 → w_M_isNamed_L21 Qr x0 x3 x4 0 h4) ∧ ((Int64.toInt32 r5) = x4 → w_M_isNamed_L21 Qr x0 x3 x4 1 h4))))


def w_M_leastRead_L34 (Qr : Int64 → xb_H → Prop) (x2 : Int64) (y0 : Int64) (y1 : Nat) (h : xb_H) : Prop :=
    xb_k h y1 = 9 ∧ ∀ h2 : xb_H, h2 = xb_L h y1 91 y0 → Qr x2 h2

def w_M_leastRead_L13 (Qr : Int64 → xb_H → Prop) (x0 : Nat) (y0 : Int32) (h : xb_H) : Prop :=
    xb_k h x0 = 9 ∧ w_M_count x0 h (fun (r3 : Int64) (h2 : xb_H) => xb_ext h h2 → ((y0 = (0 : Int32) → w_M_leastRead_L34 Qr r3 (-1) x0 h2) ∧ (¬ y0 = (0 : Int32) → w_M_count x0 h2 (fun (r6 : Int64) (h5 : xb_H) => xb_ext h2 h5 → w_M_leastRead_L34 Qr r3 r6 x0 h5))))

def w_M_leastRead (x0 : Nat) (h : xb_H) (Qr : Int64 → xb_H → Prop) : Prop :=
    xb_k h x0 = 9 ∧ w_M_next x0 h (fun (r3 : Int32) (h2 : xb_H) => xb_ext h h2 → ((¬ r3 = (1 : Int32) → w_M_leastRead_L13 Qr x0 0 h2) ∧ (r3 = (1 : Int32) → w_M_leastRead_L13 Qr x0 1 h2)))


def w_M_limits_L48 (Qr : xb_H → Prop) (h : xb_H) : Prop :=
    Qr h

def w_M_limits_L33 (Qr : xb_H → Prop) (x0 : Nat) (y0 : Int32) (h : xb_H) : Prop :=
    xb_k h x0 = 9 ∧ w_M_count x0 h (fun (r3 : Int64) (h2 : xb_H) => xb_ext h h2 → ((y0 = (0 : Int32) → w_M_limits_L48 Qr h2) ∧ (¬ y0 = (0 : Int32) → w_M_count x0 h2 (fun (r6 : Int64) (h5 : xb_H) => xb_ext h2 h5 → w_M_limits_L48 Qr h5))))

def w_M_limits_L32 (Qr : xb_H → Prop) (x0 : Nat) (h : xb_H) : Prop :=
    w_M_limits_L33 Qr x0 0 h

def w_M_limits (x0 : Nat) (h : xb_H) (Qr : xb_H → Prop) : Prop :=
    xb_k h x0 = 9 ∧ ∀ v2 : Int32, v2 = (xb_i h x0 15) → w_M_wanted x0 0 1 h (fun (h3 : xb_H) => xb_ext h h3 → ((¬ (xb_i h3 x0 17) = (0 : Int32) → w_M_limits_L32 Qr x0 h3) ∧ ((xb_i h3 x0 17) = (0 : Int32) → ∃ b6 : Nat, (xb_r h3 x0 3) = some b6 ∧ xb_k h3 b6 = 100 ∧ vp_in v2 (xb_n h3 b6) ∧ ((¬ (xb_i h3 b6 (Int32.toNatClampNeg v2)) = (1 : Int32) → w_M_limits_L32 Qr x0 h3) ∧ ((xb_i h3 b6 (Int32.toNatClampNeg v2)) = (1 : Int32) → w_M_limits_L33 Qr x0 1 h3)))))


def w_M_name0_L127 (Qr : xb_H → Prop) (h : xb_H) : Prop :=
    Qr h

def w_M_name0_L124 (K52 : Nat → Int32 → xb_H → Prop) (Qr : xb_H → Prop) (x0 : Nat) (x3 : Int32) (h : xb_H) : Prop :=
    K52 x0 x3 h

def w_M_name0_L52 (Qr : xb_H → Prop) : Nat → Nat → Int32 → xb_H → Prop
  | 0, _, _, _ => False
  | n9 + 1, x0, x3, h =>
    xb_k h x0 = 9 ∧ ((x3 ≤ (xb_i h x0 15) → w_M_name0_L127 Qr h) ∧ (¬ x3 ≤ (xb_i h x0 15) → ((¬ (xb_i h x0 17) = (0 : Int32) → w_M_name0_L127 Qr h) ∧ ((xb_i h x0 17) = (0 : Int32) → ∃ b4 : Nat, (xb_r h x0 3) = some b4 ∧ xb_k h b4 = 100 ∧ vp_in (xb_i h x0 15) (xb_n h b4) ∧ w_M_behindLead ((xb_i h b4 (Int32.toNatClampNeg (xb_i h x0 15))) &&& 255) h (fun (r8 : Int32) (h7 : xb_H) => xb_ext h h7 → w_M_isGroup x0 (xb_i h7 x0 15) r8 x3 h7 (fun (r10 : Int32) (h9 : xb_H) => xb_ext h7 h9 → ((r10 = (0 : Int32) → w_M_fail x0 4 (xb_i h9 x0 15) h9 (fun (h12 : xb_H) => xb_ext h9 h12 → w_M_name0_L124 (w_M_name0_L52 Qr n9) Qr x0 x3 h12)) ∧ (¬ r10 = (0 : Int32) → ∀ h14 : xb_H, h14 = xb_I h9 x0 15 (((xb_i h9 x0 15) + r8) + 1) → w_M_name0_L124 (w_M_name0_L52 Qr n9) Qr x0 x3 h14))))))))

def w_M_name0_L36 (Qr : xb_H → Prop) (x0 : Nat) (x1 : Int64) (h : xb_H) : Prop :=
    xb_k h x0 = 9 ∧ (((xb_i h x0 17) = (0 : Int32) → ∀ v3 : Int32, v3 = ((xb_i h x0 15) + (Int64.toInt32 x1)) → (∃ n8 : Nat, w_M_name0_L52 Qr n8 x0 v3 h)) ∧ (¬ (xb_i h x0 17) = (0 : Int32) → Qr h))

def w_M_name0 (x0 : Nat) (h : xb_H) (Qr : xb_H → Prop) : Prop :=
    xb_k h x0 = 9 ∧ w_M_count x0 h (fun (r3 : Int64) (h2 : xb_H) => xb_ext h h2 → ((¬ (xb_i h2 x0 17) = (0 : Int32) → w_M_name0_L36 Qr x0 r3 h2) ∧ ((xb_i h2 x0 17) = (0 : Int32) → ((r3 ≤ (Int32.toInt64 ((xb_i h2 x0 16) - (xb_i h2 x0 15))) → w_M_name0_L36 Qr x0 r3 h2) ∧ (¬ r3 ≤ (Int32.toInt64 ((xb_i h2 x0 16) - (xb_i h2 x0 15))) → w_M_fail x0 2 (xb_i h2 x0 16) h2 (fun (h6 : xb_H) => xb_ext h2 h6 → w_M_name0_L36 Qr x0 r3 h6))))))


def w_M_ofHost_L108 (Qr : Int32 → xb_H → Prop) (y0 : Int32) (h : xb_H) : Prop :=
    Qr y0 h

def w_M_ofHost_L83 (Qr : Int32 → xb_H → Prop) (x2 : Int32) (y0 : Int32) (h : xb_H) : Prop :=
    (((0 : Int32) ≤ y0 → ((¬ x2 = (0 : Int32) → w_M_ofHost_L108 Qr (-43) h) ∧ (x2 = (0 : Int32) → w_M_ofHost_L108 Qr (100000 + y0) h))) ∧ (¬ (0 : Int32) ≤ y0 → Qr (-42) h))

def w_M_ofHost_L36 (Qr : Int32 → xb_H → Prop) (x2 : Int32) (y0 : Int32) (h : xb_H) : Prop :=
    ((¬ y0 = (105 : Int32) → ((¬ y0 = (108 : Int32) → ((¬ y0 = (102 : Int32) → ((¬ y0 = (100 : Int32) → w_M_ofHost_L83 Qr x2 (-1) h) ∧ (y0 = (100 : Int32) → w_M_ofHost_L83 Qr x2 3 h))) ∧ (y0 = (102 : Int32) → w_M_ofHost_L83 Qr x2 2 h))) ∧ (y0 = (108 : Int32) → w_M_ofHost_L83 Qr x2 1 h))) ∧ (y0 = (105 : Int32) → w_M_ofHost_L83 Qr x2 0 h))

def w_M_ofHost (x0 : Nat) (x1 : Int32) (x2 : Int32) (x3 : Int32) (h : xb_H) (Qr : Int32 → xb_H → Prop) : Prop :=
    xb_k h x0 = 9 ∧ w_M_go x0 x1 x3 h (fun (h2 : xb_H) => xb_ext h h2 → w_M_count x0 h2 (fun (r5 : Int64) (h4 : xb_H) => xb_ext h2 h4 → ∀ v6 : Int32, v6 = (Int64.toInt32 r5) → ((¬ v6 = (1 : Int32) → w_M_ofHost_L36 Qr x2 0 h4) ∧ (v6 = (1 : Int32) → ∃ b8 : Nat, (xb_r h4 x0 3) = some b8 ∧ xb_k h4 b8 = 100 ∧ vp_in (xb_i h4 x0 15) (xb_n h4 b8) ∧ w_M_ofHost_L36 Qr x2 ((xb_i h4 b8 (Int32.toNatClampNeg (xb_i h4 x0 15))) &&& 255) h4))))


def w_M_parameters (x0 : Nat) (x1 : Int32) (x2 : Int32) (h : xb_H) (Qr : Int32 → xb_H → Prop) : Prop :=
    xb_k h x0 = 9 ∧ w_M_placeOf x0 x1 1 x2 h (fun (r3 : Int32) (h2 : xb_H) => xb_ext h h2 → w_M_go x0 x1 (r3 + 1) h2 (fun (h4 : xb_H) => xb_ext h2 h4 → w_M_count x0 h4 (fun (r7 : Int64) (h6 : xb_H) => xb_ext h4 h6 → Qr (Int64.toInt32 r7) h6)))


def w_M_row_L47 (Qr : xb_H → Prop) (h : xb_H) : Prop :=
    Qr h

def w_M_row_L38 (K8 : Nat → Int32 → Int64 → Int64 → xb_H → Prop) (Qr : xb_H → Prop) (x0 : Nat) (x1 : Int32) (x2 : Int64) (x4 : Int64) (h : xb_H) : Prop :=
    ∀ v1 : Int64, v1 = (x4 + 1) → K8 x0 x1 x2 v1 h

def w_M_row_L8 (Qr : xb_H → Prop) : Nat → Nat → Int32 → Int64 → Int64 → xb_H → Prop
  | 0, _, _, _, _, _ => False
  | n9 + 1, x0, x1, x2, x4, h =>
    ((x2 ≤ x4 → w_M_row_L47 Qr h) ∧ (¬ x2 ≤ x4 → xb_k h x0 = 9 ∧ ((¬ (xb_i h x0 17) = (0 : Int32) → w_M_row_L47 Qr h) ∧ ((xb_i h x0 17) = (0 : Int32) → ((x1 = (0 : Int32) → w_M_count x0 h (fun (r6 : Int64) (h5 : xb_H) => xb_ext h h5 → w_M_row_L38 (w_M_row_L8 Qr n9) Qr x0 x1 x2 x4 h5)) ∧ (¬ x1 = (0 : Int32) → w_M_valueType x0 h (fun (h7 : xb_H) => xb_ext h h7 → w_M_row_L38 (w_M_row_L8 Qr n9) Qr x0 x1 x2 x4 h7)))))))

def w_M_row (x0 : Nat) (x1 : Int32) (h : xb_H) (Qr : xb_H → Prop) : Prop :=
    xb_k h x0 = 9 ∧ w_M_count x0 h (fun (r3 : Int64) (h2 : xb_H) => xb_ext h h2 → (∃ n8 : Nat, w_M_row_L8 Qr n8 x0 x1 r3 0 h2))


def w_M_sameName_L95 (Qr : Int32 → xb_H → Prop) (x6 : Int32) (h : xb_H) : Prop :=
    (x6 = 0 ∨ x6 = 1) ∧ Qr x6 h

def w_M_sameName_L87 (K45 : Nat → Int32 → Int32 → Int32 → Int32 → xb_H → Prop) (Qr : Int32 → xb_H → Prop) (x0 : Nat) (x4 : Int32) (x5 : Int32) (x7 : Int32) (y0 : Int32) (h : xb_H) : Prop :=
    K45 x0 x4 x5 y0 (x7 + 1) h

def w_M_sameName_L45 (Qr : Int32 → xb_H → Prop) : Nat → Nat → Int32 → Int32 → Int32 → Int32 → xb_H → Prop
  | 0, _, _, _, _, _, _ => False
  | n9 + 1, x0, x4, x5, x6, x7, h =>
    ((x4 ≤ x7 → w_M_sameName_L95 Qr x6 h) ∧ (¬ x4 ≤ x7 → ((x6 = (0 : Int32) → w_M_sameName_L95 Qr x6 h) ∧ (¬ x6 = (0 : Int32) → xb_k h x0 = 9 ∧ ∃ b4 : Nat, (xb_r h x0 3) = some b4 ∧ xb_k h b4 = 100 ∧ vp_in (x5 + x7) (xb_n h b4) ∧ ∃ b7 : Nat, (xb_r h x0 3) = some b7 ∧ xb_k h b7 = 100 ∧ vp_in ((xb_i h x0 15) + x7) (xb_n h b7) ∧ ((¬ (xb_i h b4 (Int32.toNatClampNeg (x5 + x7))) = (xb_i h b7 (Int32.toNatClampNeg ((xb_i h x0 15) + x7))) → w_M_sameName_L87 (w_M_sameName_L45 Qr n9) Qr x0 x4 x5 x7 0 h) ∧ ((xb_i h b4 (Int32.toNatClampNeg (x5 + x7))) = (xb_i h b7 (Int32.toNatClampNeg ((xb_i h x0 15) + x7))) → w_M_sameName_L87 (w_M_sameName_L45 Qr n9) Qr x0 x4 x5 x7 1 h))))))

def w_M_sameName_L40 (Qr : Int32 → xb_H → Prop) (x0 : Nat) (x4 : Int32) (x5 : Int32) (y0 : Int32) (h : xb_H) : Prop :=
    (∃ n8 : Nat, w_M_sameName_L45 Qr n8 x0 x4 x5 y0 0 h)

def w_M_sameName (x0 : Nat) (x1 : Int32) (x2 : Int32) (x3 : Int32) (h : xb_H) (Qr : Int32 → xb_H → Prop) : Prop :=
    xb_k h x0 = 9 ∧ w_M_go x0 x1 x2 h (fun (h2 : xb_H) => xb_ext h h2 → w_M_count x0 h2 (fun (r5 : Int64) (h4 : xb_H) => xb_ext h2 h4 → ∀ v6 : Int32, v6 = (Int64.toInt32 r5) → ∀ v7 : Int32, v7 = (xb_i h4 x0 15) → w_M_go x0 x1 x3 h4 (fun (h8 : xb_H) => xb_ext h4 h8 → w_M_count x0 h8 (fun (r11 : Int64) (h10 : xb_H) => xb_ext h8 h10 → ((¬ (Int64.toInt32 r11) = v6 → w_M_sameName_L40 Qr x0 v6 v7 0 h10) ∧ ((Int64.toInt32 r11) = v6 → w_M_sameName_L40 Qr x0 v6 v7 1 h10))))))


def w_M_variableKind (x0 : Nat) (h : xb_H) (Qr : xb_H → Prop) : Prop :=
    xb_k h x0 = 9 ∧ w_M_valueType x0 h (fun (h2 : xb_H) => xb_ext h h2 → w_M_wanted x0 0 1 h2 (fun (h4 : xb_H) => xb_ext h2 h4 → Qr h4))


def w_Exact_compared_L105 (Qr : Int32 → xb_H → Prop) (y0 : Int32) (h : xb_H) : Prop :=
    (y0 = 0 ∨ y0 = 1) ∧ Qr y0 h

def w_Exact_compared_L55 (Qr : Int32 → xb_H → Prop) (x0 : Nat) (x1 : Int32) (x2 : Int64) (x4 : Int64) (y0 : Int32) (h : xb_H) : Prop :=
    ((x1 = 0 → (y0 = 0 ∨ y0 = 1) ∧ Qr y0 h) ∧ (x1 = 1 → ((¬ y0 = (0 : Int32) → w_Exact_compared_L105 Qr 0 h) ∧ (y0 = (0 : Int32) → w_Exact_compared_L105 Qr 1 h))) ∧ (x1 = 2 → xb_k h x0 = 10 ∧ w_Exact_less x0 x2 0 x4 h (fun (r7 : Int32) (h6 : xb_H) => xb_ext h h6 → (r7 = 0 ∨ r7 = 1) ∧ Qr r7 h6)) ∧ (x1 = 3 → xb_k h x0 = 10 ∧ w_Exact_less x0 x4 0 x2 h (fun (r11 : Int32) (h10 : xb_H) => xb_ext h h10 → (r11 = 0 ∨ r11 = 1) ∧ Qr r11 h10)) ∧ (x1 = 4 → xb_k h x0 = 10 ∧ w_Exact_less x0 x2 1 x4 h (fun (r15 : Int32) (h14 : xb_H) => xb_ext h h14 → (r15 = 0 ∨ r15 = 1) ∧ Qr r15 h14)) ∧ (¬ x1 = 0 → ¬ x1 = 1 → ¬ x1 = 2 → ¬ x1 = 3 → ¬ x1 = 4 → xb_k h x0 = 10 ∧ w_Exact_less x0 x4 1 x2 h (fun (r18 : Int32) (h17 : xb_H) => xb_ext h h17 → (r18 = 0 ∨ r18 = 1) ∧ Qr r18 h17)))

def w_Exact_compared_L54 (Qr : Int32 → xb_H → Prop) (x0 : Nat) (x1 : Int32) (x2 : Int64) (x4 : Int64) (h : xb_H) : Prop :=
    w_Exact_compared_L55 Qr x0 x1 x2 x4 0 h

def w_Exact_compared_L27 (Qr : Int32 → xb_H → Prop) (y0 : Int32) (h : xb_H) : Prop :=
    (y0 = 0 ∨ y0 = 1) ∧ Qr y0 h

def w_Exact_compared_L17 (Qr : Int32 → xb_H → Prop) (x1 : Int32) (h : xb_H) : Prop :=
    ((¬ x1 = (1 : Int32) → w_Exact_compared_L27 Qr 0 h) ∧ (x1 = (1 : Int32) → w_Exact_compared_L27 Qr 1 h))

def w_Exact_compared (x0 : Nat) (x1 : Int32) (x2 : Int64) (x4 : Int64) (h : xb_H) (Qr : Int32 → xb_H → Prop) : Prop :=
    xb_k h x0 = 10 ∧ w_Exact_isNone x0 x2 h (fun (r3 : Int32) (h2 : xb_H) => xb_ext h h2 → ((¬ r3 = (0 : Int32) → w_Exact_compared_L17 Qr x1 h2) ∧ (r3 = (0 : Int32) → w_Exact_isNone x0 x4 h2 (fun (r6 : Int32) (h5 : xb_H) => xb_ext h2 h5 → ((r6 = (0 : Int32) → w_Exact_less x0 x2 1 x4 h5 (fun (r9 : Int32) (h8 : xb_H) => xb_ext h5 h8 → ((r9 = (0 : Int32) → w_Exact_compared_L54 Qr x0 x1 x2 x4 h8) ∧ (¬ r9 = (0 : Int32) → w_Exact_less x0 x4 1 x2 h8 (fun (r12 : Int32) (h11 : xb_H) => xb_ext h8 h11 → ((r12 = (0 : Int32) → w_Exact_compared_L54 Qr x0 x1 x2 x4 h11) ∧ (¬ r12 = (0 : Int32) → w_Exact_compared_L55 Qr x0 x1 x2 x4 1 h11))))))) ∧ (¬ r6 = (0 : Int32) → w_Exact_compared_L17 Qr x1 h5))))))


def w_Exact_cut_L225 (Qr : Int64 → xb_H → Prop) (y0 : Int64) (h : xb_H) : Prop :=
    Qr y0 h

def w_Exact_cut_L203 (Qr : Int64 → xb_H → Prop) (x0 : Nat) (h : xb_H) : Prop :=
    xb_k h x0 = 10 ∧ ∀ h2 : xb_H, h2 = xb_I h x0 0 3 → Qr 0 h2

def w_Exact_cut_L186 (Qr : Int64 → xb_H → Prop) (x0 : Nat) (x5 : Int32) (x6 : Int64) (y0 : Int64) (h : xb_H) : Prop :=
    ((¬ x5 = (0 : Int32) → w_Exact_cut_L203 Qr x0 h) ∧ (x5 = (0 : Int32) → w_Exact_below y0 x6 h (fun (r3 : Int32) (h2 : xb_H) => xb_ext h h2 → ((r3 = (0 : Int32) → xb_k h2 x0 = 10 ∧ (((xb_i h2 x0 8) = (0 : Int32) → w_Exact_cut_L225 Qr x6 h2) ∧ (¬ (xb_i h2 x0 8) = (0 : Int32) → w_Exact_cut_L225 Qr (-x6) h2))) ∧ (¬ r3 = (0 : Int32) → w_Exact_cut_L203 Qr x0 h2)))))

def w_Exact_cut_L128 (Qr : Int64 → xb_H → Prop) (x0 : Nat) (x3 : Int32) (x4 : Int32) (x5 : Int32) (y0 : Int64) (h : xb_H) : Prop :=
    ((x4 = (0 : Int32) → xb_k h x0 = 10 ∧ (((xb_i h x0 8) = (0 : Int32) → ((¬ x3 = (64 : Int32) → w_Exact_cut_L186 Qr x0 x5 y0 4294967295 h) ∧ (x3 = (64 : Int32) → w_Exact_cut_L186 Qr x0 x5 y0 (-1) h))) ∧ (¬ (xb_i h x0 8) = (0 : Int32) → w_Exact_cut_L186 Qr x0 x5 y0 0 h))) ∧ (¬ x4 = (0 : Int32) → xb_k h x0 = 10 ∧ (((xb_i h x0 8) = (0 : Int32) → w_Exact_cut_L186 Qr x0 x5 y0 ((xb_lshl 1 (x3 - 1)) - 1) h) ∧ (¬ (xb_i h x0 8) = (0 : Int32) → w_Exact_cut_L186 Qr x0 x5 y0 (xb_lshl 1 (x3 - 1)) h))))

def w_Exact_cut_L74 (Qr : Int64 → xb_H → Prop) (x0 : Nat) (x3 : Int32) (x4 : Int32) (y0 : Int32) (h : xb_H) : Prop :=
    ((y0 = (0 : Int32) → xb_k h x0 = 10 ∧ (((xb_i h x0 10) < (0 : Int32) → (((-(xb_i h x0 10)) ≤ (62 : Int32) → w_Exact_cut_L128 Qr x0 x3 x4 y0 (xb_lshr (xb_l h x0 9) (-(xb_i h x0 10))) h) ∧ (¬ (-(xb_i h x0 10)) ≤ (62 : Int32) → w_Exact_cut_L128 Qr x0 x3 x4 y0 0 h))) ∧ (¬ (xb_i h x0 10) < (0 : Int32) → w_Exact_cut_L128 Qr x0 x3 x4 y0 (xb_lshl (xb_l h x0 9) (xb_i h x0 10)) h))) ∧ (¬ y0 = (0 : Int32) → w_Exact_cut_L128 Qr x0 x3 x4 y0 0 h))

def w_Exact_cut_L73 (Qr : Int64 → xb_H → Prop) (x0 : Nat) (x3 : Int32) (x4 : Int32) (h : xb_H) : Prop :=
    w_Exact_cut_L74 Qr x0 x3 x4 0 h

def w_Exact_cut_L65 (Qr : Int64 → xb_H → Prop) (x0 : Nat) (x3 : Int32) (x4 : Int32) (y0 : Int32) (y1 : Int32) (y2 : Int32) (h : xb_H) : Prop :=
    ((y2 ≤ (y1 + y0) → w_Exact_cut_L73 Qr x0 x3 x4 h) ∧ (¬ y2 ≤ (y1 + y0) → w_Exact_cut_L74 Qr x0 x3 x4 1 h))

def w_Exact_cut (x0 : Nat) (x1 : Int64) (x3 : Int32) (x4 : Int32) (h : xb_H) (Qr : Int64 → xb_H → Prop) : Prop :=
    xb_k h x0 = 10 ∧ w_Exact_isNone x0 x1 h (fun (r3 : Int32) (h2 : xb_H) => xb_ext h h2 → ((r3 = (0 : Int32) → w_Exact_isInfinite x0 x1 h2 (fun (r6 : Int32) (h5 : xb_H) => xb_ext h2 h5 → ((r6 = (0 : Int32) → w_Exact_split x0 x1 h5 (fun (h8 : xb_H) => xb_ext h5 h8 → (((xb_l h8 x0 9) = (0 : Int64) → w_Exact_cut_L73 Qr x0 x3 x4 h8) ∧ (¬ (xb_l h8 x0 9) = (0 : Int64) → ((¬ (xb_i h8 x0 5) = (32 : Int32) → w_Exact_cut_L65 Qr x0 x3 x4 0 11 (xb_i h8 x0 10) h8) ∧ ((xb_i h8 x0 5) = (32 : Int32) → w_Exact_cut_L65 Qr x0 x3 x4 29 11 (xb_i h8 x0 10) h8)))))) ∧ (¬ r6 = (0 : Int32) → ∀ h12 : xb_H, h12 = xb_I h5 x0 0 3 → Qr 0 h12)))) ∧ (¬ r3 = (0 : Int32) → ∀ h13 : xb_H, h13 = xb_I h2 x0 0 4 → Qr 0 h13)))


def w_Exact_floating_L41 (Qr : Int64 → xb_H → Prop) (x0 : Nat) (x4 : Int32) (y0 : Int64) (y1 : Nat) (h : xb_H) : Prop :=
    xb_k h y1 = 10 ∧ w_Exact_add y1 y0 0 h (fun (h2 : xb_H) => xb_ext h h2 → xb_k h2 x0 = 10 ∧ w_Exact_rounded x0 x4 h2 (fun (r6 : Int64) (h5 : xb_H) => xb_ext h2 h5 → Qr r6 h5))

def w_Exact_floating_L23 (Qr : Int64 → xb_H → Prop) (x0 : Nat) (x1 : Int64) (y0 : Int32) (h : xb_H) : Prop :=
    xb_k h x0 = 10 ∧ w_Exact_clear x0 h (fun (h2 : xb_H) => xb_ext h h2 → ((y0 = (0 : Int32) → w_Exact_floating_L41 Qr x0 y0 x1 x0 h2) ∧ (¬ y0 = (0 : Int32) → w_Exact_floating_L41 Qr x0 y0 (-x1) x0 h2)))

def w_Exact_floating_L22 (Qr : Int64 → xb_H → Prop) (x0 : Nat) (x1 : Int64) (h : xb_H) : Prop :=
    w_Exact_floating_L23 Qr x0 x1 0 h

def w_Exact_floating (x0 : Nat) (x1 : Int64) (x3 : Int32) (h : xb_H) (Qr : Int64 → xb_H → Prop) : Prop :=
    ((¬ x1 = (0 : Int64) → ((x3 = (0 : Int32) → w_Exact_floating_L22 Qr x0 x1 h) ∧ (¬ x3 = (0 : Int32) → (((0 : Int64) ≤ x1 → w_Exact_floating_L22 Qr x0 x1 h) ∧ (¬ (0 : Int64) ≤ x1 → w_Exact_floating_L23 Qr x0 x1 1 h))))) ∧ (x1 = (0 : Int64) → Qr 0 h))


def w_Exact_product_L160 (K128 : Nat → Int32 → Int64 → Int32 → Int32 → xb_H → Prop) (Qr : Int64 → xb_H → Prop) (x0 : Nat) (x5 : Int32) (x6 : Int64) (x8 : Int32) (x9 : Int32) (h : xb_H) : Prop :=
    K128 x0 x5 x6 x8 (x9 + 1) h

def w_Exact_product_L128 (Qr : Int64 → xb_H → Prop) : Nat → Nat → Int32 → Int64 → Int32 → Int32 → xb_H → Prop
  | 0, _, _, _, _, _, _ => False
  | n9 + 1, x0, x5, x6, x8, x9, h =>
    (((53 : Int32) ≤ x9 → xb_k h x0 = 10 ∧ w_Exact_rounded x0 x5 h (fun (r4 : Int64) (h3 : xb_H) => xb_ext h h3 → Qr r4 h3)) ∧ (¬ (53 : Int32) ≤ x9 → ((¬ ((xb_lshr x6 x9) &&& 1) = (1 : Int64) → w_Exact_product_L160 (w_Exact_product_L128 Qr n9) Qr x0 x5 x6 x8 x9 h) ∧ (((xb_lshr x6 x9) &&& 1) = (1 : Int64) → xb_k h x0 = 10 ∧ w_Exact_add x0 (xb_l h x0 9) (x8 + x9) h (fun (h7 : xb_H) => xb_ext h h7 → w_Exact_product_L160 (w_Exact_product_L128 Qr n9) Qr x0 x5 x6 x8 x9 h7)))))

def w_Exact_product_L82 (Qr : Int64 → xb_H → Prop) (x0 : Nat) (x5 : Int32) (h : xb_H) : Prop :=
    xb_k h x0 = 10 ∧ w_Exact_signed x0 0 x5 h (fun (r3 : Int64) (h2 : xb_H) => xb_ext h h2 → Qr r3 h2)

def w_Exact_product_L65 (Qr : Int64 → xb_H → Prop) (y0 : Int64) (h : xb_H) : Prop :=
    Qr y0 h

def w_Exact_product_L52 (Qr : Int64 → xb_H → Prop) (x0 : Nat) (h : xb_H) : Prop :=
    xb_k h x0 = 10 ∧ w_Exact_noNumber x0 h (fun (r3 : Int64) (h2 : xb_H) => xb_ext h h2 → w_Exact_product_L65 Qr r3 h2)

def w_Exact_product_L36 (Qr : Int64 → xb_H → Prop) (x0 : Nat) (x1 : Int64) (x3 : Int64) (x5 : Int32) (h : xb_H) : Prop :=
    xb_k h x0 = 10 ∧ w_Exact_isZero x0 x1 h (fun (r3 : Int32) (h2 : xb_H) => xb_ext h h2 → ((¬ r3 = (0 : Int32) → w_Exact_product_L52 Qr x0 h2) ∧ (r3 = (0 : Int32) → w_Exact_isZero x0 x3 h2 (fun (r6 : Int32) (h5 : xb_H) => xb_ext h2 h5 → ((r6 = (0 : Int32) → w_Exact_infinite x0 x5 h5 (fun (r9 : Int64) (h8 : xb_H) => xb_ext h5 h8 → w_Exact_product_L65 Qr r9 h8)) ∧ (¬ r6 = (0 : Int32) → w_Exact_product_L52 Qr x0 h5))))))

def w_Exact_product_L18 (Qr : Int64 → xb_H → Prop) (x0 : Nat) (x1 : Int64) (x3 : Int64) (y0 : Int32) (h : xb_H) : Prop :=
    xb_k h x0 = 10 ∧ w_Exact_isInfinite x0 x1 h (fun (r3 : Int32) (h2 : xb_H) => xb_ext h h2 → ((¬ r3 = (0 : Int32) → w_Exact_product_L36 Qr x0 x1 x3 y0 h2) ∧ (r3 = (0 : Int32) → w_Exact_isInfinite x0 x3 h2 (fun (r6 : Int32) (h5 : xb_H) => xb_ext h2 h5 → ((r6 = (0 : Int32) → w_Exact_isZero x0 x1 h5 (fun (r9 : Int32) (h8 : xb_H) => xb_ext h5 h8 → ((¬ r9 = (0 : Int32) → w_Exact_product_L82 Qr x0 y0 h8) ∧ (r9 = (0 : Int32) → w_Exact_isZero x0 x3 h8 (fun (r12 : Int32) (h11 : xb_H) => xb_ext h8 h11 → ((r12 = (0 : Int32) → w_Exact_split x0 x1 h11 (fun (h14 : xb_H) => xb_ext h11 h14 → ∀ v16 : Int64, v16 = (xb_l h14 x0 9) → ∀ v17 : Int32, v17 = (xb_i h14 x0 10) → w_Exact_split x0 x3 h14 (fun (h18 : xb_H) => xb_ext h14 h18 → ∀ v20 : Int32, v20 = (v17 + (xb_i h18 x0 10)) → w_Exact_clear x0 h18 (fun (h21 : xb_H) => xb_ext h18 h21 → (∃ n8 : Nat, w_Exact_product_L128 Qr n8 x0 y0 v16 v20 0 h21))))) ∧ (¬ r12 = (0 : Int32) → w_Exact_product_L82 Qr x0 y0 h11))))))) ∧ (¬ r6 = (0 : Int32) → w_Exact_product_L36 Qr x0 x1 x3 y0 h5))))))

def w_Exact_product (x0 : Nat) (x1 : Int64) (x3 : Int64) (h : xb_H) (Qr : Int64 → xb_H → Prop) : Prop :=
    xb_k h x0 = 10 ∧ w_Exact_isMinus x0 x1 h (fun (r3 : Int32) (h2 : xb_H) => xb_ext h h2 → w_Exact_isMinus x0 x3 h2 (fun (r5 : Int32) (h4 : xb_H) => xb_ext h2 h4 → ((r3 = r5 → w_Exact_product_L18 Qr x0 x1 x3 0 h4) ∧ (¬ r3 = r5 → w_Exact_product_L18 Qr x0 x1 x3 1 h4))))


def w_Exact_quotient_L225 (Qr : Int64 → xb_H → Prop) (x0 : Nat) (x5 : Int32) (y0 : Int32) (y1 : Nat) (h : xb_H) : Prop :=
    xb_k h y1 = 10 ∧ (y0 = 0 ∨ y0 = 1) ∧ ∀ h3 : xb_H, h3 = xb_I h y1 4 y0 → xb_k h3 x0 = 10 ∧ w_Exact_rounded x0 x5 h3 (fun (r6 : Int64) (h5 : xb_H) => xb_ext h3 h5 → Qr r6 h5)

def w_Exact_quotient_L206 (K147 : Nat → Int32 → Int64 → Int32 → Int64 → Int32 → xb_H → Prop) (Qr : Int64 → xb_H → Prop) (x0 : Nat) (x5 : Int32) (x6 : Int64) (x8 : Int32) (x9 : Int64) (x11 : Int32) (h : xb_H) : Prop :=
    K147 x0 x5 x6 x8 x9 (x11 + (-1)) h

def w_Exact_quotient_L178 (K147 : Nat → Int32 → Int64 → Int32 → Int64 → Int32 → xb_H → Prop) (Qr : Int64 → xb_H → Prop) (x0 : Nat) (x5 : Int32) (x6 : Int64) (x8 : Int32) (x11 : Int32) (y0 : Int64) (y1 : Int64) (h : xb_H) : Prop :=
    ∀ v1 : Int64, v1 = (y1 + y0) → ((v1 < x6 → w_Exact_quotient_L206 K147 Qr x0 x5 x6 x8 v1 x11 h) ∧ (¬ v1 < x6 → ∀ v3 : Int64, v3 = (v1 - x6) → xb_k h x0 = 10 ∧ w_Exact_add x0 1 (x8 + x11) h (fun (h5 : xb_H) => xb_ext h h5 → w_Exact_quotient_L206 K147 Qr x0 x5 x6 x8 v3 x11 h5)))

def w_Exact_quotient_L147 (Qr : Int64 → xb_H → Prop) : Nat → Nat → Int32 → Int64 → Int32 → Int64 → Int32 → xb_H → Prop
  | 0, _, _, _, _, _, _, _ => False
  | n9 + 1, x0, x5, x6, x8, x9, x11, h =>
    ((x11 < ((-110) : Int32) → ((x9 = (0 : Int64) → w_Exact_quotient_L225 Qr x0 x5 0 x0 h) ∧ (¬ x9 = (0 : Int64) → w_Exact_quotient_L225 Qr x0 x5 1 x0 h))) ∧ (¬ x11 < ((-110) : Int32) → (((0 : Int32) ≤ x11 → xb_k h x0 = 10 ∧ w_Exact_quotient_L178 (w_Exact_quotient_L147 Qr n9) Qr x0 x5 x6 x8 x11 ((xb_lshr (xb_l h x0 9) x11) &&& 1) (2 * x9) h) ∧ (¬ (0 : Int32) ≤ x11 → w_Exact_quotient_L178 (w_Exact_quotient_L147 Qr n9) Qr x0 x5 x6 x8 x11 0 (2 * x9) h))))

def w_Exact_quotient_L96 (Qr : Int64 → xb_H → Prop) (x0 : Nat) (x5 : Int32) (h : xb_H) : Prop :=
    xb_k h x0 = 10 ∧ w_Exact_signed x0 0 x5 h (fun (r3 : Int64) (h2 : xb_H) => xb_ext h h2 → Qr r3 h2)

def w_Exact_quotient_L73 (Qr : Int64 → xb_H → Prop) (x0 : Nat) (x5 : Int32) (h : xb_H) : Prop :=
    xb_k h x0 = 10 ∧ w_Exact_infinite x0 x5 h (fun (r3 : Int64) (h2 : xb_H) => xb_ext h h2 → Qr r3 h2)

def w_Exact_quotient_L57 (Qr : Int64 → xb_H → Prop) (x0 : Nat) (x1 : Int64) (x3 : Int64) (x5 : Int32) (h : xb_H) : Prop :=
    xb_k h x0 = 10 ∧ w_Exact_isInfinite x0 x1 h (fun (r3 : Int32) (h2 : xb_H) => xb_ext h h2 → ((¬ r3 = (0 : Int32) → w_Exact_quotient_L73 Qr x0 x5 h2) ∧ (r3 = (0 : Int32) → w_Exact_isZero x0 x3 h2 (fun (r6 : Int32) (h5 : xb_H) => xb_ext h2 h5 → ((r6 = (0 : Int32) → w_Exact_isInfinite x0 x3 h5 (fun (r9 : Int32) (h8 : xb_H) => xb_ext h5 h8 → ((¬ r9 = (0 : Int32) → w_Exact_quotient_L96 Qr x0 x5 h8) ∧ (r9 = (0 : Int32) → w_Exact_isZero x0 x1 h8 (fun (r12 : Int32) (h11 : xb_H) => xb_ext h8 h11 → ((r12 = (0 : Int32) → w_Exact_split x0 x3 h11 (fun (h14 : xb_H) => xb_ext h11 h14 → ∀ v16 : Int64, v16 = (xb_l h14 x0 9) → ∀ v17 : Int32, v17 = (-(xb_i h14 x0 10)) → w_Exact_split x0 x1 h14 (fun (h18 : xb_H) => xb_ext h14 h18 → ∀ v20 : Int32, v20 = (v17 + (xb_i h18 x0 10)) → w_Exact_clear x0 h18 (fun (h21 : xb_H) => xb_ext h18 h21 → (∃ n8 : Nat, w_Exact_quotient_L147 Qr n8 x0 x5 v16 v20 0 52 h21))))) ∧ (¬ r12 = (0 : Int32) → w_Exact_quotient_L96 Qr x0 x5 h11))))))) ∧ (¬ r6 = (0 : Int32) → w_Exact_quotient_L73 Qr x0 x5 h5))))))

def w_Exact_quotient_L52 (Qr : Int64 → xb_H → Prop) (x0 : Nat) (h : xb_H) : Prop :=
    xb_k h x0 = 10 ∧ w_Exact_noNumber x0 h (fun (r3 : Int64) (h2 : xb_H) => xb_ext h h2 → Qr r3 h2)

def w_Exact_quotient_L36 (Qr : Int64 → xb_H → Prop) (x0 : Nat) (x1 : Int64) (x3 : Int64) (x5 : Int32) (h : xb_H) : Prop :=
    xb_k h x0 = 10 ∧ w_Exact_isZero x0 x1 h (fun (r3 : Int32) (h2 : xb_H) => xb_ext h h2 → ((r3 = (0 : Int32) → w_Exact_quotient_L57 Qr x0 x1 x3 x5 h2) ∧ (¬ r3 = (0 : Int32) → w_Exact_isZero x0 x3 h2 (fun (r6 : Int32) (h5 : xb_H) => xb_ext h2 h5 → ((r6 = (0 : Int32) → w_Exact_quotient_L57 Qr x0 x1 x3 x5 h5) ∧ (¬ r6 = (0 : Int32) → w_Exact_quotient_L52 Qr x0 h5))))))

def w_Exact_quotient_L18 (Qr : Int64 → xb_H → Prop) (x0 : Nat) (x1 : Int64) (x3 : Int64) (y0 : Int32) (h : xb_H) : Prop :=
    xb_k h x0 = 10 ∧ w_Exact_isInfinite x0 x1 h (fun (r3 : Int32) (h2 : xb_H) => xb_ext h h2 → ((r3 = (0 : Int32) → w_Exact_quotient_L36 Qr x0 x1 x3 y0 h2) ∧ (¬ r3 = (0 : Int32) → w_Exact_isInfinite x0 x3 h2 (fun (r6 : Int32) (h5 : xb_H) => xb_ext h2 h5 → ((¬ r6 = (0 : Int32) → w_Exact_quotient_L52 Qr x0 h5) ∧ (r6 = (0 : Int32) → w_Exact_quotient_L36 Qr x0 x1 x3 y0 h5))))))

def w_Exact_quotient (x0 : Nat) (x1 : Int64) (x3 : Int64) (h : xb_H) (Qr : Int64 → xb_H → Prop) : Prop :=
    xb_k h x0 = 10 ∧ w_Exact_isMinus x0 x1 h (fun (r3 : Int32) (h2 : xb_H) => xb_ext h h2 → w_Exact_isMinus x0 x3 h2 (fun (r5 : Int32) (h4 : xb_H) => xb_ext h2 h4 → ((r3 = r5 → w_Exact_quotient_L18 Qr x0 x1 x3 0 h4) ∧ (¬ r3 = r5 → w_Exact_quotient_L18 Qr x0 x1 x3 1 h4))))


def w_Exact_reckoned_L140 (Qr : Int64 → xb_H → Prop) (x1 : Int32) (x2 : Int32) (x3 : Int64) (x7 : Int32) (h : xb_H) : Prop :=
    w_Exact_moved x1 x2 x3 x7 h (fun (r2 : Int64) (h1 : xb_H) => xb_ext h h1 → Qr r2 h1)

def w_Exact_reckoned_L115 (Qr : Int64 → xb_H → Prop) (x0 : Nat) (x1 : Int32) (x2 : Int32) (x3 : Int64) (x5 : Int64) (h : xb_H) : Prop :=
    xb_k h x0 = 10 ∧ w_Exact_byDivision x0 x1 x2 x3 x5 h (fun (r3 : Int64) (h2 : xb_H) => xb_ext h h2 → Qr r3 h2)

def w_Exact_reckoned_L92 (Qr : Int64 → xb_H → Prop) (x1 : Int32) (x2 : Int32) (x3 : Int64) (h : xb_H) : Prop :=
    w_Exact_count x3 x2 x1 h (fun (r2 : Int32) (h1 : xb_H) => xb_ext h h1 → Qr (Int32.toInt64 r2) h1)

def w_Exact_reckoned (x0 : Nat) (x1 : Int32) (x2 : Int32) (x3 : Int64) (x5 : Int64) (h : xb_H) (Qr : Int64 → xb_H → Prop) : Prop :=
    ∀ v1 : Int32, v1 = (Int64.toInt32 (x5 &&& (Int32.toInt64 (x2 - 1)))) → ((x1 = 0 → w_Exact_reckoned_L92 Qr x1 x2 x3 h) ∧ (x1 = 1 → w_Exact_reckoned_L92 Qr x1 x2 x3 h) ∧ (x1 = 2 → w_Exact_reckoned_L92 Qr x1 x2 x3 h) ∧ (x1 = 3 → Qr (x3 + x5) h) ∧ (x1 = 4 → Qr (x3 - x5) h) ∧ (x1 = 5 → Qr (x3 * x5) h) ∧ (x1 = 6 → w_Exact_reckoned_L115 Qr x0 x1 x2 x3 x5 h) ∧ (x1 = 7 → w_Exact_reckoned_L115 Qr x0 x1 x2 x3 x5 h) ∧ (x1 = 8 → w_Exact_reckoned_L115 Qr x0 x1 x2 x3 x5 h) ∧ (x1 = 9 → w_Exact_reckoned_L115 Qr x0 x1 x2 x3 x5 h) ∧ (x1 = 10 → Qr (x3 &&& x5) h) ∧ (x1 = 11 → Qr (x3 ||| x5) h) ∧ (x1 = 12 → Qr (x3 ^^^ x5) h) ∧ (x1 = 13 → w_Exact_reckoned_L140 Qr x1 x2 x3 v1 h) ∧ (x1 = 14 → w_Exact_reckoned_L140 Qr x1 x2 x3 v1 h) ∧ (x1 = 15 → w_Exact_reckoned_L140 Qr x1 x2 x3 v1 h) ∧ (x1 = 16 → w_Exact_turned x3 x2 v1 h (fun (r20 : Int64) (h19 : xb_H) => xb_ext h h19 → Qr r20 h19)) ∧ (¬ x1 = 0 → ¬ x1 = 1 → ¬ x1 = 2 → ¬ x1 = 3 → ¬ x1 = 4 → ¬ x1 = 5 → ¬ x1 = 6 → ¬ x1 = 7 → ¬ x1 = 8 → ¬ x1 = 9 → ¬ x1 = 10 → ¬ x1 = 11 → ¬ x1 = 12 → ¬ x1 = 13 → ¬ x1 = 14 → ¬ x1 = 15 → ¬ x1 = 16 → ¬ x2 = 0 ∧ w_Exact_turned x3 x2 ((x2 - v1) - (x2 - v1) / x2 * x2) h (fun (r23 : Int64) (h22 : xb_H) => xb_ext h h22 → Qr r23 h22)))


def w_Exact_reformed_L94 (Qr : Int64 → xb_H → Prop) (y0 : Int64) (h : xb_H) : Prop :=
    Qr y0 h

def w_Exact_reformed_L73 (Qr : Int64 → xb_H → Prop) (x0 : Nat) (x5 : Int32) (x7 : Int32) (h : xb_H) : Prop :=
    ((x5 = (0 : Int32) → xb_k h x0 = 10 ∧ w_Exact_signed x0 0 x7 h (fun (r4 : Int64) (h3 : xb_H) => xb_ext h h3 → w_Exact_reformed_L94 Qr r4 h3)) ∧ (¬ x5 = (0 : Int32) → xb_k h x0 = 10 ∧ w_Exact_infinite x0 x7 h (fun (r7 : Int64) (h6 : xb_H) => xb_ext h h6 → w_Exact_reformed_L94 Qr r7 h6)))

def w_Exact_reformed_L48 (Qr : Int64 → xb_H → Prop) (x0 : Nat) (x3 : Int32) (x4 : Int32) (x5 : Int32) (x6 : Int32) (x7 : Int32) (h : xb_H) : Prop :=
    xb_k h x0 = 10 ∧ w_Exact_format x0 x3 h (fun (h2 : xb_H) => xb_ext h h2 → ((x4 = (0 : Int32) → ((¬ x5 = (0 : Int32) → w_Exact_reformed_L73 Qr x0 x5 x7 h2) ∧ (x5 = (0 : Int32) → ((x6 = (0 : Int32) → w_Exact_clear x0 h2 (fun (h7 : xb_H) => xb_ext h2 h7 → w_Exact_add x0 (xb_l h7 x0 9) (xb_i h7 x0 10) h7 (fun (h9 : xb_H) => xb_ext h7 h9 → w_Exact_rounded x0 x7 h9 (fun (r12 : Int64) (h11 : xb_H) => xb_ext h9 h11 → Qr r12 h11)))) ∧ (¬ x6 = (0 : Int32) → w_Exact_reformed_L73 Qr x0 x5 x7 h2))))) ∧ (¬ x4 = (0 : Int32) → w_Exact_noNumber x0 h2 (fun (r14 : Int64) (h13 : xb_H) => xb_ext h2 h13 → Qr r14 h13))))

def w_Exact_reformed (x0 : Nat) (x1 : Int64) (x3 : Int32) (h : xb_H) (Qr : Int64 → xb_H → Prop) : Prop :=
    xb_k h x0 = 10 ∧ w_Exact_isNone x0 x1 h (fun (r3 : Int32) (h2 : xb_H) => xb_ext h h2 → w_Exact_isInfinite x0 x1 h2 (fun (r5 : Int32) (h4 : xb_H) => xb_ext h2 h4 → w_Exact_isZero x0 x1 h4 (fun (r7 : Int32) (h6 : xb_H) => xb_ext h4 h6 → w_Exact_isMinus x0 x1 h6 (fun (r9 : Int32) (h8 : xb_H) => xb_ext h6 h8 → ((¬ r3 = (0 : Int32) → w_Exact_reformed_L48 Qr x0 x3 r3 r5 r7 r9 h8) ∧ (r3 = (0 : Int32) → ((¬ r5 = (0 : Int32) → w_Exact_reformed_L48 Qr x0 x3 r3 r5 r7 r9 h8) ∧ (r5 = (0 : Int32) → ((¬ r7 = (0 : Int32) → w_Exact_reformed_L48 Qr x0 x3 r3 r5 r7 r9 h8) ∧ (r7 = (0 : Int32) → w_Exact_split x0 x1 h8 (fun (h13 : xb_H) => xb_ext h8 h13 → w_Exact_reformed_L48 Qr x0 x3 r3 r5 r7 r9 h13)))))))))))


def w_Exact_root_L217 (Qr : Int64 → xb_H → Prop) (x0 : Nat) (y0 : Int32) (y1 : Nat) (h : xb_H) : Prop :=
    xb_k h y1 = 10 ∧ (y0 = 0 ∨ y0 = 1) ∧ ∀ h3 : xb_H, h3 = xb_I h y1 4 y0 → xb_k h3 x0 = 10 ∧ w_Exact_rounded x0 0 h3 (fun (r6 : Int64) (h5 : xb_H) => xb_ext h3 h5 → Qr r6 h5)

def w_Exact_root_L199 (K115 : Nat → Int64 → Int64 → Int32 → xb_H → Prop) (Qr : Int64 → xb_H → Prop) (x0 : Nat) (x3 : Int64) (x5 : Int64) (x7 : Int32) (h : xb_H) : Prop :=
    K115 x0 x3 x5 (x7 + (-1)) h

def w_Exact_root_L149 (K115 : Nat → Int64 → Int64 → Int32 → xb_H → Prop) (Qr : Int64 → xb_H → Prop) (x0 : Nat) (x5 : Int64) (x7 : Int32) (y0 : Int64) (y1 : Int64) (h : xb_H) : Prop :=
    ∀ v1 : Int64, v1 = (y1 + y0) → ∀ v2 : Int64, v2 = ((4 * x5) + 1) → ∀ v3 : Int64, v3 = (xb_lshl x5 1) → ((v1 < v2 → w_Exact_root_L199 K115 Qr x0 v1 v3 x7 h) ∧ (¬ v1 < v2 → ∀ v5 : Int64, v5 = (v1 - v2) → ∀ v6 : Int64, v6 = (v3 + 1) → xb_k h x0 = 10 ∧ w_Exact_add x0 1 (((xb_i h x0 10) / 2) + x7) h (fun (h8 : xb_H) => xb_ext h h8 → w_Exact_root_L199 K115 Qr x0 v5 v6 x7 h8)))

def w_Exact_root_L115 (Qr : Int64 → xb_H → Prop) : Nat → Nat → Int64 → Int64 → Int32 → xb_H → Prop
  | 0, _, _, _, _, _ => False
  | n9 + 1, x0, x3, x5, x7, h =>
    ((x7 < ((-30) : Int32) → ((x3 = (0 : Int64) → w_Exact_root_L217 Qr x0 0 x0 h) ∧ (¬ x3 = (0 : Int64) → w_Exact_root_L217 Qr x0 1 x0 h))) ∧ (¬ x7 < ((-30) : Int32) → (((0 : Int32) ≤ x7 → xb_k h x0 = 10 ∧ w_Exact_root_L149 (w_Exact_root_L115 Qr n9) Qr x0 x5 x7 ((xb_lshr (xb_l h x0 9) (2 * x7)) &&& 3) (4 * x3) h) ∧ (¬ (0 : Int32) ≤ x7 → w_Exact_root_L149 (w_Exact_root_L115 Qr n9) Qr x0 x5 x7 0 (4 * x3) h))))

def w_Exact_root_L67 (Qr : Int64 → xb_H → Prop) : Nat → Nat → xb_H → Prop
  | 0, _, _ => False
  | n9 + 1, x0, h =>
    xb_k h x0 = 10 ∧ ((¬ (xb_lshr (xb_l h x0 9) 52) = (0 : Int64) → w_Exact_clear x0 h (fun (h3 : xb_H) => xb_ext h h3 → (∃ n8 : Nat, w_Exact_root_L115 Qr n8 x0 0 0 26 h3))) ∧ ((xb_lshr (xb_l h x0 9) 52) = (0 : Int64) → ∀ h5 : xb_H, h5 = xb_L h x0 9 (xb_lshl (xb_l h x0 9) 2) → ∀ h6 : xb_H, h6 = xb_I h5 x0 10 ((xb_i h5 x0 10) - 2) → w_Exact_root_L67 Qr n9 x0 h6))

def w_Exact_root (x0 : Nat) (x1 : Int64) (h : xb_H) (Qr : Int64 → xb_H → Prop) : Prop :=
    xb_k h x0 = 10 ∧ w_Exact_isZero x0 x1 h (fun (r3 : Int32) (h2 : xb_H) => xb_ext h h2 → ((r3 = (0 : Int32) → w_Exact_isMinus x0 x1 h2 (fun (r6 : Int32) (h5 : xb_H) => xb_ext h2 h5 → ((r6 = (0 : Int32) → w_Exact_isInfinite x0 x1 h5 (fun (r9 : Int32) (h8 : xb_H) => xb_ext h5 h8 → ((r9 = (0 : Int32) → w_Exact_split x0 x1 h8 (fun (h11 : xb_H) => xb_ext h8 h11 → ((((xb_i h11 x0 10) &&& 1) = (0 : Int32) → (∃ n8 : Nat, w_Exact_root_L67 Qr n8 x0 h11)) ∧ (¬ ((xb_i h11 x0 10) &&& 1) = (0 : Int32) → ∀ h14 : xb_H, h14 = xb_L h11 x0 9 (xb_lshl (xb_l h11 x0 9) 1) → ∀ h15 : xb_H, h15 = xb_I h14 x0 10 ((xb_i h14 x0 10) - 1) → (∃ n8 : Nat, w_Exact_root_L67 Qr n8 x0 h15))))) ∧ (¬ r9 = (0 : Int32) → Qr x1 h8)))) ∧ (¬ r6 = (0 : Int32) → w_Exact_noNumber x0 h5 (fun (r17 : Int64) (h16 : xb_H) => xb_ext h5 h16 → Qr r17 h16))))) ∧ (¬ r3 = (0 : Int32) → Qr x1 h2)))


def w_Exact_sum_L245 (Qr : Int64 → xb_H → Prop) (x0 : Nat) (x11 : Int32) (h : xb_H) : Prop :=
    xb_k h x0 = 10 ∧ w_Exact_rounded x0 x11 h (fun (r3 : Int64) (h2 : xb_H) => xb_ext h h2 → Qr r3 h2)

def w_Exact_sum_L175 (Qr : Int64 → xb_H → Prop) (y0 : Int32) (y1 : Int64) (y2 : Nat) (h : xb_H) : Prop :=
    xb_k h y2 = 10 ∧ w_Exact_signed y2 y1 y0 h (fun (r3 : Int64) (h2 : xb_H) => xb_ext h h2 → Qr r3 h2)

def w_Exact_sum_L174 (Qr : Int64 → xb_H → Prop) (y0 : Int64) (y1 : Nat) (h : xb_H) : Prop :=
    w_Exact_sum_L175 Qr 0 y0 y1 h

def w_Exact_sum_L152 (Qr : Int64 → xb_H → Prop) (x0 : Nat) (x1 : Int64) (x3 : Int64) (h : xb_H) : Prop :=
    xb_k h x0 = 10 ∧ w_Exact_isMinus x0 x1 h (fun (r3 : Int32) (h2 : xb_H) => xb_ext h h2 → ((r3 = (0 : Int32) → w_Exact_sum_L174 Qr 0 x0 h2) ∧ (¬ r3 = (0 : Int32) → w_Exact_isMinus x0 x3 h2 (fun (r6 : Int32) (h5 : xb_H) => xb_ext h2 h5 → ((r6 = (0 : Int32) → w_Exact_sum_L174 Qr 0 x0 h5) ∧ (¬ r6 = (0 : Int32) → w_Exact_sum_L175 Qr 1 0 x0 h5))))))

def w_Exact_sum_L143 (Qr : Int64 → xb_H → Prop) (x0 : Nat) (x1 : Int64) (x3 : Int64) (x6 : Int64) (x8 : Int64) (x10 : Int32) (h : xb_H) : Prop :=
    xb_k h x0 = 10 ∧ w_Exact_isZero x0 x6 h (fun (r3 : Int32) (h2 : xb_H) => xb_ext h h2 → ((r3 = (0 : Int32) → w_Exact_clear x0 h2 (fun (h5 : xb_H) => xb_ext h2 h5 → w_Exact_split x0 x6 h5 (fun (h7 : xb_H) => xb_ext h5 h7 → ∀ v9 : Int32, v9 = (xb_i h7 x0 8) → w_Exact_add x0 (xb_l h7 x0 9) (xb_i h7 x0 10) h7 (fun (h10 : xb_H) => xb_ext h7 h10 → w_Exact_split x0 x8 h10 (fun (h12 : xb_H) => xb_ext h10 h12 → ((x10 = (0 : Int32) → w_Exact_add x0 (xb_l h12 x0 9) (xb_i h12 x0 10) h12 (fun (h15 : xb_H) => xb_ext h12 h15 → w_Exact_sum_L245 Qr x0 v9 h15)) ∧ (¬ x10 = (0 : Int32) → w_Exact_take x0 (xb_l h12 x0 9) (xb_i h12 x0 10) h12 (fun (h17 : xb_H) => xb_ext h12 h17 → w_Exact_sum_L245 Qr x0 v9 h17)))))))) ∧ (¬ r3 = (0 : Int32) → w_Exact_sum_L152 Qr x0 x1 x3 h2)))

def w_Exact_sum_L122 (Qr : Int64 → xb_H → Prop) (x0 : Nat) (x1 : Int64) (x3 : Int64) (x6 : Int64) (x8 : Int64) (y0 : Int32) (h : xb_H) : Prop :=
    xb_k h x0 = 10 ∧ w_Exact_size x0 x1 h (fun (r3 : Int64) (h2 : xb_H) => xb_ext h h2 → w_Exact_size x0 x3 h2 (fun (r5 : Int64) (h4 : xb_H) => xb_ext h2 h4 → ((¬ r3 = r5 → w_Exact_sum_L143 Qr x0 x1 x3 x6 x8 y0 h4) ∧ (r3 = r5 → ((¬ y0 = (0 : Int32) → w_Exact_sum_L152 Qr x0 x1 x3 h4) ∧ (y0 = (0 : Int32) → w_Exact_sum_L143 Qr x0 x1 x3 x6 x8 y0 h4))))))

def w_Exact_sum_L102 (Qr : Int64 → xb_H → Prop) (x0 : Nat) (x1 : Int64) (x3 : Int64) (x6 : Int64) (y0 : Int64) (h : xb_H) : Prop :=
    xb_k h x0 = 10 ∧ w_Exact_isMinus x0 x1 h (fun (r3 : Int32) (h2 : xb_H) => xb_ext h h2 → w_Exact_isMinus x0 x3 h2 (fun (r5 : Int32) (h4 : xb_H) => xb_ext h2 h4 → ((r3 = r5 → w_Exact_sum_L122 Qr x0 x1 x3 x6 y0 0 h4) ∧ (¬ r3 = r5 → w_Exact_sum_L122 Qr x0 x1 x3 x6 y0 1 h4))))

def w_Exact_sum_L90 (Qr : Int64 → xb_H → Prop) (x0 : Nat) (x1 : Int64) (x3 : Int64) (x5 : Int32) (y0 : Int64) (h : xb_H) : Prop :=
    ((x5 = (0 : Int32) → w_Exact_sum_L102 Qr x0 x1 x3 y0 x3 h) ∧ (¬ x5 = (0 : Int32) → w_Exact_sum_L102 Qr x0 x1 x3 y0 x1 h))

def w_Exact_sum_L78 (Qr : Int64 → xb_H → Prop) (x0 : Nat) (x1 : Int64) (x3 : Int64) (y0 : Int32) (h : xb_H) : Prop :=
    ((y0 = (0 : Int32) → w_Exact_sum_L90 Qr x0 x1 x3 y0 x1 h) ∧ (¬ y0 = (0 : Int32) → w_Exact_sum_L90 Qr x0 x1 x3 y0 x3 h))

def w_Exact_sum_L58 (Qr : Int64 → xb_H → Prop) (y0 : Int64) (h : xb_H) : Prop :=
    Qr y0 h

def w_Exact_sum_L45 (Qr : Int64 → xb_H → Prop) (x0 : Nat) (x1 : Int64) (x3 : Int64) (h : xb_H) : Prop :=
    xb_k h x0 = 10 ∧ w_Exact_isInfinite x0 x1 h (fun (r3 : Int32) (h2 : xb_H) => xb_ext h h2 → ((r3 = (0 : Int32) → w_Exact_sum_L58 Qr x3 h2) ∧ (¬ r3 = (0 : Int32) → w_Exact_sum_L58 Qr x1 h2)))

def w_Exact_sum_L16 (Qr : Int64 → xb_H → Prop) (x0 : Nat) (x1 : Int64) (x3 : Int64) (h : xb_H) : Prop :=
    xb_k h x0 = 10 ∧ w_Exact_isInfinite x0 x1 h (fun (r3 : Int32) (h2 : xb_H) => xb_ext h h2 → ((r3 = (0 : Int32) → w_Exact_sum_L45 Qr x0 x1 x3 h2) ∧ (¬ r3 = (0 : Int32) → w_Exact_isInfinite x0 x3 h2 (fun (r6 : Int32) (h5 : xb_H) => xb_ext h2 h5 → ((r6 = (0 : Int32) → w_Exact_sum_L45 Qr x0 x1 x3 h5) ∧ (¬ r6 = (0 : Int32) → ((x1 = x3 → w_Exact_sum_L45 Qr x0 x1 x3 h5) ∧ (¬ x1 = x3 → w_Exact_noNumber x0 h5 (fun (r10 : Int64) (h9 : xb_H) => xb_ext h5 h9 → w_Exact_sum_L58 Qr r10 h9)))))))))

def w_Exact_sum (x0 : Nat) (x1 : Int64) (x3 : Int64) (h : xb_H) (Qr : Int64 → xb_H → Prop) : Prop :=
    xb_k h x0 = 10 ∧ w_Exact_isInfinite x0 x1 h (fun (r3 : Int32) (h2 : xb_H) => xb_ext h h2 → ((¬ r3 = (0 : Int32) → w_Exact_sum_L16 Qr x0 x1 x3 h2) ∧ (r3 = (0 : Int32) → w_Exact_isInfinite x0 x3 h2 (fun (r6 : Int32) (h5 : xb_H) => xb_ext h2 h5 → ((r6 = (0 : Int32) → w_Exact_size x0 x3 h5 (fun (r9 : Int64) (h8 : xb_H) => xb_ext h5 h8 → w_Exact_size x0 x1 h8 (fun (r11 : Int64) (h10 : xb_H) => xb_ext h8 h10 → ((r9 ≤ r11 → w_Exact_sum_L78 Qr x0 x1 x3 0 h10) ∧ (¬ r9 ≤ r11 → w_Exact_sum_L78 Qr x0 x1 x3 1 h10))))) ∧ (¬ r6 = (0 : Int32) → w_Exact_sum_L16 Qr x0 x1 x3 h5))))))


def w_Exact_whole_L259 (Qr : Int64 → xb_H → Prop) (x0 : Nat) (y0 : Int64) (h : xb_H) : Prop :=
    ((¬ y0 = (0 : Int64) → xb_k h x0 = 10 ∧ ∀ v3 : Int32, v3 = (xb_i h x0 8) → w_Exact_clear x0 h (fun (h4 : xb_H) => xb_ext h h4 → w_Exact_add x0 y0 0 h4 (fun (h6 : xb_H) => xb_ext h4 h6 → w_Exact_rounded x0 v3 h6 (fun (r9 : Int64) (h8 : xb_H) => xb_ext h6 h8 → Qr r9 h8)))) ∧ (y0 = (0 : Int64) → xb_k h x0 = 10 ∧ w_Exact_signed x0 0 (xb_i h x0 8) h (fun (r12 : Int64) (h11 : xb_H) => xb_ext h h11 → Qr r12 h11)))

def w_Exact_whole_L243 (Qr : Int64 → xb_H → Prop) (x0 : Nat) (x4 : Int64) (y0 : Int32) (h : xb_H) : Prop :=
    ((y0 = (0 : Int32) → w_Exact_whole_L259 Qr x0 x4 h) ∧ (¬ y0 = (0 : Int32) → w_Exact_whole_L259 Qr x0 (x4 + 1) h))

def w_Exact_whole_L242 (Qr : Int64 → xb_H → Prop) (x0 : Nat) (x4 : Int64) (h : xb_H) : Prop :=
    w_Exact_whole_L243 Qr x0 x4 0 h

def w_Exact_whole_L238 (Qr : Int64 → xb_H → Prop) (x0 : Nat) (x4 : Int64) (h : xb_H) : Prop :=
    w_Exact_whole_L243 Qr x0 x4 1 h

def w_Exact_whole_L209 (Qr : Int64 → xb_H → Prop) (x0 : Nat) (x4 : Int64) (h : xb_H) : Prop :=
    w_Exact_whole_L243 Qr x0 x4 0 h

def w_Exact_whole_L184 (Qr : Int64 → xb_H → Prop) (x0 : Nat) (x4 : Int64) (h : xb_H) : Prop :=
    w_Exact_whole_L243 Qr x0 x4 0 h

def w_Exact_whole_L161 (Qr : Int64 → xb_H → Prop) (x0 : Nat) (x1 : Int32) (x4 : Int64) (x6 : Int32) (x7 : Int32) (y0 : Int32) (h : xb_H) : Prop :=
    ((¬ x1 = (3 : Int32) → ((¬ x1 = (4 : Int32) → ((¬ x1 = (6 : Int32) → w_Exact_whole_L242 Qr x0 x4 h) ∧ (x1 = (6 : Int32) → ((x7 = (0 : Int32) → w_Exact_whole_L242 Qr x0 x4 h) ∧ (¬ x7 = (0 : Int32) → ((¬ y0 = (0 : Int32) → w_Exact_whole_L238 Qr x0 x4 h) ∧ (y0 = (0 : Int32) → ((¬ (x4 &&& 1) = (1 : Int64) → w_Exact_whole_L242 Qr x0 x4 h) ∧ ((x4 &&& 1) = (1 : Int64) → w_Exact_whole_L238 Qr x0 x4 h))))))))) ∧ (x1 = (4 : Int32) → ((x6 = (0 : Int32) → w_Exact_whole_L209 Qr x0 x4 h) ∧ (¬ x6 = (0 : Int32) → xb_k h x0 = 10 ∧ (((xb_i h x0 8) = (0 : Int32) → w_Exact_whole_L209 Qr x0 x4 h) ∧ (¬ (xb_i h x0 8) = (0 : Int32) → w_Exact_whole_L243 Qr x0 x4 1 h))))))) ∧ (x1 = (3 : Int32) → ((x6 = (0 : Int32) → w_Exact_whole_L184 Qr x0 x4 h) ∧ (¬ x6 = (0 : Int32) → xb_k h x0 = 10 ∧ ((¬ (xb_i h x0 8) = (0 : Int32) → w_Exact_whole_L184 Qr x0 x4 h) ∧ ((xb_i h x0 8) = (0 : Int32) → w_Exact_whole_L243 Qr x0 x4 1 h))))))

def w_Exact_whole_L160 (Qr : Int64 → xb_H → Prop) (x0 : Nat) (x1 : Int32) (x4 : Int64) (x6 : Int32) (x7 : Int32) (h : xb_H) : Prop :=
    w_Exact_whole_L161 Qr x0 x1 x4 x6 x7 0 h

def w_Exact_whole_L125 (Qr : Int64 → xb_H → Prop) (x0 : Nat) (x1 : Int32) (x4 : Int64) (x6 : Int32) (y0 : Int32) (h : xb_H) : Prop :=
    ((y0 = (0 : Int32) → w_Exact_whole_L160 Qr x0 x1 x4 x6 y0 h) ∧ (¬ y0 = (0 : Int32) → xb_k h x0 = 10 ∧ (((xb_l h x0 9) = (xb_lshl ((2 * x4) + 1) ((-(xb_i h x0 10)) - 1)) → w_Exact_whole_L160 Qr x0 x1 x4 x6 y0 h) ∧ (¬ (xb_l h x0 9) = (xb_lshl ((2 * x4) + 1) ((-(xb_i h x0 10)) - 1)) → w_Exact_whole_L161 Qr x0 x1 x4 x6 y0 1 h))))

def w_Exact_whole_L124 (Qr : Int64 → xb_H → Prop) (x0 : Nat) (x1 : Int32) (x4 : Int64) (x6 : Int32) (h : xb_H) : Prop :=
    w_Exact_whole_L125 Qr x0 x1 x4 x6 0 h

def w_Exact_whole_L89 (Qr : Int64 → xb_H → Prop) (x0 : Nat) (x1 : Int32) (x4 : Int64) (y0 : Int32) (h : xb_H) : Prop :=
    xb_k h x0 = 10 ∧ (((63 : Int32) < (-(xb_i h x0 10)) → w_Exact_whole_L124 Qr x0 x1 x4 y0 h) ∧ (¬ (63 : Int32) < (-(xb_i h x0 10)) → ((¬ ((xb_lshr (xb_l h x0 9) ((-(xb_i h x0 10)) - 1)) &&& 1) = (1 : Int64) → w_Exact_whole_L124 Qr x0 x1 x4 y0 h) ∧ (((xb_lshr (xb_l h x0 9) ((-(xb_i h x0 10)) - 1)) &&& 1) = (1 : Int64) → w_Exact_whole_L125 Qr x0 x1 x4 y0 1 h))))

def w_Exact_whole_L84 (Qr : Int64 → xb_H → Prop) (x0 : Nat) (x1 : Int32) (x4 : Int64) (h : xb_H) : Prop :=
    w_Exact_whole_L89 Qr x0 x1 x4 1 h

def w_Exact_whole_L56 (Qr : Int64 → xb_H → Prop) (x0 : Nat) (x1 : Int32) (y0 : Int64) (h : xb_H) : Prop :=
    xb_k h x0 = 10 ∧ (((62 : Int32) < (-(xb_i h x0 10)) → w_Exact_whole_L84 Qr x0 x1 y0 h) ∧ (¬ (62 : Int32) < (-(xb_i h x0 10)) → (((xb_l h x0 9) = (xb_lshl y0 (-(xb_i h x0 10))) → w_Exact_whole_L89 Qr x0 x1 y0 0 h) ∧ (¬ (xb_l h x0 9) = (xb_lshl y0 (-(xb_i h x0 10))) → w_Exact_whole_L84 Qr x0 x1 y0 h))))

def w_Exact_whole_L16 (Qr : Int64 → xb_H → Prop) (x2 : Int64) (h : xb_H) : Prop :=
    Qr x2 h

def w_Exact_whole (x0 : Nat) (x1 : Int32) (x2 : Int64) (h : xb_H) (Qr : Int64 → xb_H → Prop) : Prop :=
    xb_k h x0 = 10 ∧ w_Exact_isInfinite x0 x2 h (fun (r3 : Int32) (h2 : xb_H) => xb_ext h h2 → ((¬ r3 = (0 : Int32) → w_Exact_whole_L16 Qr x2 h2) ∧ (r3 = (0 : Int32) → w_Exact_isZero x0 x2 h2 (fun (r6 : Int32) (h5 : xb_H) => xb_ext h2 h5 → ((r6 = (0 : Int32) → w_Exact_split x0 x2 h5 (fun (h8 : xb_H) => xb_ext h5 h8 → (((xb_i h8 x0 10) < (0 : Int32) → (((-(xb_i h8 x0 10)) ≤ (62 : Int32) → w_Exact_whole_L56 Qr x0 x1 (xb_lshr (xb_l h8 x0 9) (-(xb_i h8 x0 10))) h8) ∧ (¬ (-(xb_i h8 x0 10)) ≤ (62 : Int32) → w_Exact_whole_L56 Qr x0 x1 0 h8))) ∧ (¬ (xb_i h8 x0 10) < (0 : Int32) → Qr x2 h8)))) ∧ (¬ r6 = (0 : Int32) → w_Exact_whole_L16 Qr x2 h5))))))


def w_H_name (x0 : Nat) (x1 : Int32) (h : xb_H) (bc : Nat) (bs : Nat) (Qr : xb_H → Nat → Nat → Prop) (Qt : String → xb_H → Nat → Nat → Prop) : Prop :=
    xb_k h x0 = 1 ∧ w_H_instanceNumbered x0 x1 h bc bs (fun (r3 : Nat) (h2 : xb_H) (bc3 bs3 : Nat) => xb_ext h h2 → ∃ b4 : Nat, (xb_r h2 x0 6) = some b4 ∧ xb_k h2 r3 = 11 ∧ ∃ b6 : Nat, (xb_r h2 x0 0) = some b6 ∧ xb_k h2 b4 = 7 ∧ w_World_addName b4 (xb_i h2 r3 0) b6 (xb_i h2 x0 1) h2 bc3 bs3 (fun (h8 : xb_H) (bc9 bs9 : Nat) => xb_ext h2 h8 → ∀ h10 : xb_H, h10 = xb_I h8 x0 1 0 → Qr h10 bc9 bs9)) Qt


def w_Checker_checkInstruction_L67 (Qr : xb_H → Nat → Nat → Prop) (Qt : String → xb_H → Nat → Nat → Prop) (h : xb_H) (bc : Nat) (bs : Nat) : Prop :=
    Qr h bc bs

def w_Checker_checkInstruction (x0 : Nat) (x1 : Int32) (h : xb_H) (bc : Nat) (bs : Nat) (Qr : xb_H → Nat → Nat → Prop) (Qt : String → xb_H → Nat → Nat → Prop) : Prop :=
    ((x1 < (69 : Int32) → ((x1 < (65 : Int32) → ((x1 < (40 : Int32) → ((x1 < (32 : Int32) → xb_k h x0 = 5 ∧ w_Checker_checkControl x0 x1 h bc bs (fun (h6 : xb_H) (bc7 bs7 : Nat) => xb_ext h h6 → w_Checker_checkInstruction_L67 Qr Qt h6 bc7 bs7) Qt) ∧ (¬ x1 < (32 : Int32) → xb_k h x0 = 5 ∧ w_Checker_checkNamed x0 x1 h bc bs (fun (h9 : xb_H) (bc10 bs10 : Nat) => xb_ext h h9 → w_Checker_checkInstruction_L67 Qr Qt h9 bc10 bs10) Qt))) ∧ (¬ x1 < (40 : Int32) → xb_k h x0 = 5 ∧ w_Checker_checkMemory x0 x1 h bc bs (fun (h12 : xb_H) (bc13 bs13 : Nat) => xb_ext h h12 → w_Checker_checkInstruction_L67 Qr Qt h12 bc13 bs13) Qt))) ∧ (¬ x1 < (65 : Int32) → xb_k h x0 = 5 ∧ w_Checker_put x0 (127 - (x1 - 65)) h (fun (h15 : xb_H) => xb_ext h h15 → w_Checker_checkInstruction_L67 Qr Qt h15 bc bs)))) ∧ (¬ x1 < (69 : Int32) → xb_k h x0 = 5 ∧ w_Checker_checkNumeric x0 x1 h bc bs (fun (h18 : xb_H) (bc19 bs19 : Nat) => xb_ext h h18 → w_Checker_checkInstruction_L67 Qr Qt h18 bc19 bs19) Qt))


def w_Machine_call_L154 (Qr : xb_H → Nat → Nat → Prop) (x0 : Nat) (x3 : Nat) (x4 : Nat) (x5 : Int32) (x6 : Int32) (x7 : Int32) (h : xb_H) (bc : Nat) (bs : Nat) : Prop :=
    xb_k h x0 = 8 ∧ ∀ v2 : Int32, v2 = ((xb_i h x0 4) * 5) → ∃ b3 : Nat, (xb_r h x0 11) = some b3 ∧ xb_k h x3 = 11 ∧ xb_k h b3 = 102 ∧ vp_in (v2 + 0) (xb_n h b3) ∧ ∀ h7 : xb_H, h7 = xb_I h b3 (Int32.toNatClampNeg (v2 + 0)) (xb_i h x3 0) → ∃ b8 : Nat, (xb_r h7 x0 11) = some b8 ∧ xb_k h7 b8 = 102 ∧ vp_in (v2 + 1) (xb_n h7 b8) ∧ ∀ h11 : xb_H, h11 = xb_I h7 b8 (Int32.toNatClampNeg (v2 + 1)) x5 → ∃ b12 : Nat, (xb_r h11 x0 11) = some b12 ∧ xb_k h11 x4 = 3 ∧ w_StackModule_typeOf x4 x5 h11 (fun (r15 : Int32) (h14 : xb_H) => xb_ext h11 h14 → w_StackModule_parameters x4 r15 h14 (fun (r17 : Int32) (h16 : xb_H) => xb_ext h14 h16 → xb_k h16 b12 = 102 ∧ vp_in (v2 + 3) (xb_n h16 b12) ∧ ∀ h20 : xb_H, h20 = xb_I h16 b12 (Int32.toNatClampNeg (v2 + 3)) ((xb_i h11 x0 10) - r17) → ∃ b21 : Nat, (xb_r h20 x0 11) = some b21 ∧ xb_k h20 b21 = 102 ∧ vp_in (v2 + 4) (xb_n h20 b21) ∧ ∀ h24 : xb_H, h24 = xb_I h20 b21 (Int32.toNatClampNeg (v2 + 4)) ((xb_i h20 x0 10) + x7) → ∀ h25 : xb_H, h25 = xb_I h24 x0 10 ((xb_i h24 x0 10) + x7) → ∀ h26 : xb_H, h26 = xb_I h25 x0 4 ((xb_i h25 x0 4) + 1) → w_Machine_enter x0 v2 h26 (fun (h27 : xb_H) => xb_ext h26 h27 → ∃ b29 : Nat, (xb_r h27 x4 11) = some b29 ∧ xb_k h27 b29 = 2 ∧ w_Row_at b29 x6 0 h27 (fun (r32 : Int32) (h31 : xb_H) => xb_ext h27 h31 → ∀ h33 : xb_H, h33 = xb_I h31 x0 15 r32 → Qr h33 bc bs))))

def w_Machine_call_L99 (Qr : xb_H → Nat → Nat → Prop) (x0 : Nat) (h : xb_H) (bc : Nat) (bs : Nat) : Prop :=
    xb_k h x0 = 8 ∧ w_Machine_fall x0 9 h (fun (h2 : xb_H) => xb_ext h h2 → Qr h2 bc bs)

def w_Machine_call (x0 : Nat) (x1 : Int32) (x2 : Int32) (h : xb_H) (bc : Nat) (bs : Nat) (Qr : xb_H → Nat → Nat → Prop) : Prop :=
    ((x1 < (8192 : Int32) → xb_k h x0 = 8 ∧ ∃ b3 : Nat, (xb_r h x0 0) = some b3 ∧ xb_k h b3 = 7 ∧ w_World_ownerOf b3 x1 h (fun (r6 : Nat) (h5 : xb_H) => xb_ext h h5 → xb_k h5 r6 = 11 ∧ ∃ b8 : Nat, (xb_r h5 r6 1) = some b8 ∧ w_Instance_numberOf r6 x1 h5 (fun (r10 : Int32) (h9 : xb_H) => xb_ext h5 h9 → xb_k h9 b8 = 3 ∧ ∃ b12 : Nat, (xb_r h9 b8 14) = some b12 ∧ xb_k h9 b12 = 102 ∧ vp_in 0 (xb_n h9 b12) ∧ ∀ v15 : Int32, v15 = (r10 - (xb_i h9 b12 0)) → ∃ b16 : Nat, (xb_r h9 b8 11) = some b16 ∧ xb_k h9 b16 = 2 ∧ w_Row_at b16 v15 1 h9 (fun (r19 : Int32) (h18 : xb_H) => xb_ext h9 h18 → ∃ b20 : Nat, (xb_r h18 b8 11) = some b20 ∧ xb_k h18 b20 = 2 ∧ w_Row_at b20 v15 4 h18 (fun (r23 : Int32) (h22 : xb_H) => xb_ext h18 h22 → ∀ v24 : Int32, v24 = (((xb_i h18 x0 10) + r19) + r23) → (((200 : Int32) ≤ (xb_i h22 x0 4) → w_Machine_call_L99 Qr x0 h22 bc bs) ∧ (¬ (200 : Int32) ≤ (xb_i h22 x0 4) → ((v24 ≤ (16384 : Int32) → w_Machine_makeRoom x0 v24 h22 bc bs (fun (h27 : xb_H) (bc28 bs28 : Nat) => xb_ext h22 h27 → ∃ b29 : Nat, (xb_r h27 x0 9) = some b29 ∧ w_Arrays_fill1 b29 (xb_i h27 x0 10) ((xb_i h27 x0 10) + r19) 0 h27 (fun (h30 : xb_H) => xb_ext h27 h30 → (((xb_i h30 x0 4) ≤ (0 : Int32) → w_Machine_call_L154 Qr x0 r6 b8 r10 v15 r19 h30 bc28 bs28) ∧ (¬ (xb_i h30 x0 4) ≤ (0 : Int32) → ∃ b33 : Nat, (xb_r h30 x0 11) = some b33 ∧ xb_k h30 b33 = 102 ∧ vp_in ((((xb_i h30 x0 4) - 1) * 5) + 2) (xb_n h30 b33) ∧ ∀ h36 : xb_H, h36 = xb_I h30 b33 (Int32.toNatClampNeg ((((xb_i h30 x0 4) - 1) * 5) + 2)) x2 → w_Machine_call_L154 Qr x0 r6 b8 r10 v15 r19 h36 bc28 bs28))))) ∧ (¬ v24 ≤ (16384 : Int32) → w_Machine_call_L99 Qr x0 h22 bc bs))))))))) ∧ (¬ x1 < (8192 : Int32) → xb_k h x0 = 8 ∧ w_Machine_callHost x0 x2 h bc bs (fun (h38 : xb_H) (bc39 bs39 : Nat) => xb_ext h h38 → Qr h38 bc39 bs39)))


def w_Machine_convert_L189 (Qr : xb_H → Prop) (h : xb_H) : Prop :=
    Qr h

def w_Machine_convert_L172 (Qr : xb_H → Prop) (x0 : Nat) (x1 : Int32) (x2 : Int64) (h : xb_H) : Prop :=
    xb_k h x0 = 8 ∧ ∃ b2 : Nat, (xb_r h x0 9) = some b2 ∧ w_Machine_converted x0 x1 x2 h (fun (r4 : Int64) (h3 : xb_H) => xb_ext h h3 → xb_k h3 b2 = 103 ∧ vp_in ((xb_i h x0 10) - 1) (xb_n h3 b2) ∧ ∀ h7 : xb_H, h7 = xb_L h3 b2 (Int32.toNatClampNeg ((xb_i h x0 10) - 1)) r4 → w_Machine_convert_L189 Qr h7)

def w_Machine_convert_L166 (Qr : xb_H → Prop) (y0 : Int32) (y1 : Int32) (y2 : Int64) (y3 : Nat) (y4 : Nat) (h : xb_H) : Prop :=
    xb_k h y4 = 8 ∧ w_Machine_truncate y4 y3 y2 y1 y0 h (fun (h2 : xb_H) => xb_ext h h2 → w_Machine_convert_L189 Qr h2)

def w_Machine_convert_L146 (Qr : xb_H → Prop) (x0 : Nat) (x1 : Int32) (x2 : Int64) (h : xb_H) : Prop :=
    xb_k h x0 = 8 ∧ ∃ b2 : Nat, (xb_r h x0 2) = some b2 ∧ ((¬ x1 = (176 : Int32) → w_Machine_convert_L166 Qr 0 64 x2 b2 x0 h) ∧ (x1 = (176 : Int32) → w_Machine_convert_L166 Qr 1 64 x2 b2 x0 h))

def w_Machine_convert_L140 (Qr : xb_H → Prop) (y0 : Int32) (y1 : Int32) (y2 : Int64) (y3 : Nat) (y4 : Nat) (h : xb_H) : Prop :=
    xb_k h y4 = 8 ∧ w_Machine_truncate y4 y3 y2 y1 y0 h (fun (h2 : xb_H) => xb_ext h h2 → w_Machine_convert_L189 Qr h2)

def w_Machine_convert_L120 (Qr : xb_H → Prop) (x0 : Nat) (x1 : Int32) (x2 : Int64) (h : xb_H) : Prop :=
    xb_k h x0 = 8 ∧ ∃ b2 : Nat, (xb_r h x0 1) = some b2 ∧ ((¬ x1 = (174 : Int32) → w_Machine_convert_L140 Qr 0 64 x2 b2 x0 h) ∧ (x1 = (174 : Int32) → w_Machine_convert_L140 Qr 1 64 x2 b2 x0 h))

def w_Machine_convert_L114 (Qr : xb_H → Prop) (y0 : Int32) (y1 : Int32) (y2 : Int64) (y3 : Nat) (y4 : Nat) (h : xb_H) : Prop :=
    xb_k h y4 = 8 ∧ w_Machine_truncate y4 y3 y2 y1 y0 h (fun (h2 : xb_H) => xb_ext h h2 → w_Machine_convert_L189 Qr h2)

def w_Machine_convert_L94 (Qr : xb_H → Prop) (x0 : Nat) (x1 : Int32) (x2 : Int64) (h : xb_H) : Prop :=
    xb_k h x0 = 8 ∧ ∃ b2 : Nat, (xb_r h x0 2) = some b2 ∧ ((¬ x1 = (170 : Int32) → w_Machine_convert_L114 Qr 0 32 x2 b2 x0 h) ∧ (x1 = (170 : Int32) → w_Machine_convert_L114 Qr 1 32 x2 b2 x0 h))

def w_Machine_convert_L88 (Qr : xb_H → Prop) (y0 : Int32) (y1 : Int32) (y2 : Int64) (y3 : Nat) (y4 : Nat) (h : xb_H) : Prop :=
    xb_k h y4 = 8 ∧ w_Machine_truncate y4 y3 y2 y1 y0 h (fun (h2 : xb_H) => xb_ext h h2 → w_Machine_convert_L189 Qr h2)

def w_Machine_convert_L68 (Qr : xb_H → Prop) (x0 : Nat) (x1 : Int32) (x2 : Int64) (h : xb_H) : Prop :=
    xb_k h x0 = 8 ∧ ∃ b2 : Nat, (xb_r h x0 1) = some b2 ∧ ((¬ x1 = (168 : Int32) → w_Machine_convert_L88 Qr 0 32 x2 b2 x0 h) ∧ (x1 = (168 : Int32) → w_Machine_convert_L88 Qr 1 32 x2 b2 x0 h))

def w_Machine_convert (x0 : Nat) (x1 : Int32) (h : xb_H) (Qr : xb_H → Prop) : Prop :=
    xb_k h x0 = 8 ∧ ∃ b2 : Nat, (xb_r h x0 9) = some b2 ∧ xb_k h b2 = 103 ∧ vp_in ((xb_i h x0 10) - 1) (xb_n h b2) ∧ ∀ v5 : Int64, v5 = (xb_l h b2 (Int32.toNatClampNeg ((xb_i h x0 10) - 1))) → ((x1 = 168 → w_Machine_convert_L68 Qr x0 x1 v5 h) ∧ (x1 = 169 → w_Machine_convert_L68 Qr x0 x1 v5 h) ∧ (x1 = 170 → w_Machine_convert_L94 Qr x0 x1 v5 h) ∧ (x1 = 171 → w_Machine_convert_L94 Qr x0 x1 v5 h) ∧ (x1 = 172 → w_Machine_convert_L172 Qr x0 x1 v5 h) ∧ (x1 = 173 → w_Machine_convert_L172 Qr x0 x1 v5 h) ∧ (x1 = 174 → w_Machine_convert_L120 Qr x0 x1 v5 h) ∧ (x1 = 175 → w_Machine_convert_L120 Qr x0 x1 v5 h) ∧ (x1 = 176 → w_Machine_convert_L146 Qr x0 x1 v5 h) ∧ (x1 = 177 → w_Machine_convert_L146 Qr x0 x1 v5 h) ∧ (¬ x1 = 168 → ¬ x1 = 169 → ¬ x1 = 170 → ¬ x1 = 171 → ¬ x1 = 172 → ¬ x1 = 173 → ¬ x1 = 174 → ¬ x1 = 175 → ¬ x1 = 176 → ¬ x1 = 177 → w_Machine_convert_L172 Qr x0 x1 v5 h))


def w_Machine_reckonFloating_L134 (Qr : xb_H → Prop) (h : xb_H) : Prop :=
    Qr h

def w_Machine_reckonFloating_L43 (Qr : xb_H → Prop) (x0 : Nat) (x3 : Nat) (y0 : Int32) (y1 : Int32) (h : xb_H) : Prop :=
    ∀ v1 : Int32, v1 = (y1 - y0) → (((7 : Int32) ≤ v1 → xb_k h x0 = 8 ∧ ∀ h4 : xb_H, h4 = xb_I h x0 10 ((xb_i h x0 10) - 1) → ∃ b5 : Nat, (xb_r h4 x0 9) = some b5 ∧ ∃ b6 : Nat, (xb_r h4 x0 9) = some b6 ∧ xb_k h4 b6 = 103 ∧ vp_in ((xb_i h4 x0 10) - 1) (xb_n h4 b6) ∧ ∃ b9 : Nat, (xb_r h4 x0 9) = some b9 ∧ xb_k h4 b9 = 103 ∧ vp_in (xb_i h4 x0 10) (xb_n h4 b9) ∧ xb_k h4 x3 = 6 ∧ w_Format_reckonTwo x3 (v1 - 7) (xb_l h4 b6 (Int32.toNatClampNeg ((xb_i h4 x0 10) - 1))) (xb_l h4 b9 (Int32.toNatClampNeg (xb_i h4 x0 10))) h4 (fun (r14 : Int64) (h13 : xb_H) => xb_ext h4 h13 → xb_k h13 b5 = 103 ∧ vp_in ((xb_i h4 x0 10) - 1) (xb_n h13 b5) ∧ ∀ h17 : xb_H, h17 = xb_L h13 b5 (Int32.toNatClampNeg ((xb_i h4 x0 10) - 1)) r14 → w_Machine_reckonFloating_L134 Qr h17)) ∧ (¬ (7 : Int32) ≤ v1 → xb_k h x0 = 8 ∧ ∃ b19 : Nat, (xb_r h x0 9) = some b19 ∧ ∃ b20 : Nat, (xb_r h x0 9) = some b20 ∧ xb_k h b20 = 103 ∧ vp_in ((xb_i h x0 10) - 1) (xb_n h b20) ∧ xb_k h x3 = 6 ∧ w_Format_reckonOne x3 v1 (xb_l h b20 (Int32.toNatClampNeg ((xb_i h x0 10) - 1))) h (fun (r25 : Int64) (h24 : xb_H) => xb_ext h h24 → xb_k h24 b19 = 103 ∧ vp_in ((xb_i h x0 10) - 1) (xb_n h24 b19) ∧ ∀ h28 : xb_H, h28 = xb_L h24 b19 (Int32.toNatClampNeg ((xb_i h x0 10) - 1)) r25 → w_Machine_reckonFloating_L134 Qr h28)))

def w_Machine_reckonFloating_L28 (Qr : xb_H → Prop) (x0 : Nat) (x1 : Int32) (x2 : Int32) (y0 : Nat) (h : xb_H) : Prop :=
    ((x2 = (0 : Int32) → w_Machine_reckonFloating_L43 Qr x0 y0 139 x1 h) ∧ (¬ x2 = (0 : Int32) → w_Machine_reckonFloating_L43 Qr x0 y0 153 x1 h))

def w_Machine_reckonFloating_L12 (Qr : xb_H → Prop) (x0 : Nat) (x1 : Int32) (y0 : Int32) (h : xb_H) : Prop :=
    ((y0 = (0 : Int32) → xb_k h x0 = 8 ∧ ∃ b3 : Nat, (xb_r h x0 1) = some b3 ∧ w_Machine_reckonFloating_L28 Qr x0 x1 y0 b3 h) ∧ (¬ y0 = (0 : Int32) → xb_k h x0 = 8 ∧ ∃ b5 : Nat, (xb_r h x0 2) = some b5 ∧ w_Machine_reckonFloating_L28 Qr x0 x1 y0 b5 h))

def w_Machine_reckonFloating (x0 : Nat) (x1 : Int32) (h : xb_H) (Qr : xb_H → Prop) : Prop :=
    ((x1 < (153 : Int32) → w_Machine_reckonFloating_L12 Qr x0 x1 0 h) ∧ (¬ x1 < (153 : Int32) → w_Machine_reckonFloating_L12 Qr x0 x1 1 h))


def w_Machine_reckonWhole_L33 (Qr : xb_H → Prop) (h : xb_H) : Prop :=
    Qr h

def w_Machine_reckonWhole (x0 : Nat) (x1 : Int32) (h : xb_H) (Qr : xb_H → Prop) : Prop :=
    (((102 : Int32) < x1 → (((120 : Int32) < x1 → xb_k h x0 = 8 ∧ w_Machine_reckonLong x0 x1 h (fun (h4 : xb_H) => xb_ext h h4 → w_Machine_reckonWhole_L33 Qr h4)) ∧ (¬ (120 : Int32) < x1 → xb_k h x0 = 8 ∧ w_Machine_reckonShort x0 x1 h (fun (h7 : xb_H) => xb_ext h h7 → w_Machine_reckonWhole_L33 Qr h7)))) ∧ (¬ (102 : Int32) < x1 → xb_k h x0 = 8 ∧ w_Machine_compare x0 x1 h (fun (h10 : xb_H) => xb_ext h h10 → w_Machine_reckonWhole_L33 Qr h10)))


def w_Machine_sizeMemory_L65 (Qr : xb_H → Nat → Nat → Prop) (x0 : Nat) (h : xb_H) (bc : Nat) (bs : Nat) : Prop :=
    xb_k h x0 = 8 ∧ ∃ b2 : Nat, (xb_r h x0 14) = some b2 ∧ xb_k h b2 = 102 ∧ vp_in (xb_i h x0 15) (xb_n h b2) ∧ ∀ h5 : xb_H, h5 = xb_I h x0 15 (xb_i h b2 (Int32.toNatClampNeg (xb_i h x0 15))) → Qr h5 bc bs

def w_Machine_sizeMemory (x0 : Nat) (x1 : Int32) (h : xb_H) (bc : Nat) (bs : Nat) (Qr : xb_H → Nat → Nat → Prop) : Prop :=
    ((¬ x1 = (63 : Int32) → xb_k h x0 = 8 ∧ ∃ b3 : Nat, (xb_r h x0 9) = some b3 ∧ ∃ b4 : Nat, (xb_r h x0 0) = some b4 ∧ ∃ b5 : Nat, (xb_r h x0 12) = some b5 ∧ xb_k h b5 = 11 ∧ ∃ b7 : Nat, (xb_r h b5 7) = some b7 ∧ ∃ b8 : Nat, (xb_r h x0 9) = some b8 ∧ xb_k h b8 = 103 ∧ vp_in ((xb_i h x0 10) - 1) (xb_n h b8) ∧ xb_k h b4 = 7 ∧ w_World_grow b4 b7 (xb_l h b8 (Int32.toNatClampNeg ((xb_i h x0 10) - 1))) h bc bs (fun (r13 : Int32) (h12 : xb_H) (bc13 bs13 : Nat) => xb_ext h h12 → xb_k h12 b3 = 103 ∧ vp_in ((xb_i h x0 10) - 1) (xb_n h12 b3) ∧ ∀ h16 : xb_H, h16 = xb_L h12 b3 (Int32.toNatClampNeg ((xb_i h x0 10) - 1)) ((Int32.toInt64 r13) &&& 4294967295) → w_Machine_sizeMemory_L65 Qr x0 h16 bc13 bs13)) ∧ (x1 = (63 : Int32) → xb_k h x0 = 8 ∧ ∃ b18 : Nat, (xb_r h x0 12) = some b18 ∧ xb_k h b18 = 11 ∧ ∃ b20 : Nat, (xb_r h b18 7) = some b20 ∧ xb_k h b20 = 13 ∧ w_Machine_putValue x0 (Int32.toInt64 (xb_i h b20 3)) h (fun (h22 : xb_H) => xb_ext h h22 → w_Machine_sizeMemory_L65 Qr x0 h22 bc bs)))


def w_Reader_readBody_L130 (Qr : xb_H → Nat → Nat → Prop) (Qt : String → xb_H → Nat → Nat → Prop) (x0 : Nat) (x1 : Int32) (h : xb_H) (bc : Nat) (bs : Nat) : Prop :=
    xb_k h x0 = 4 ∧ ∀ h2 : xb_H, h2 = xb_I h x0 4 x1 → Qr h2 bc bs

def w_Reader_readBody (x0 : Nat) (h : xb_H) (bc : Nat) (bs : Nat) (Qr : xb_H → Nat → Nat → Prop) (Qt : String → xb_H → Nat → Nat → Prop) : Prop :=
    xb_k h x0 = 4 ∧ ∀ v2 : Int32, v2 = (xb_i h x0 4) → w_Reader_count x0 h bc bs (fun (r4 : Int32) (h3 : xb_H) (bc4 bs4 : Nat) => xb_ext h h3 → w_Reader_limitTo x0 r4 h3 bc4 bs4 (fun (h5 : xb_H) (bc6 bs6 : Nat) => xb_ext h3 h5 → ∃ b7 : Nat, (xb_r h5 x0 0) = some b7 ∧ xb_k h5 b7 = 3 ∧ ∃ b9 : Nat, (xb_r h5 b7 12) = some b9 ∧ xb_k h5 b9 = 2 ∧ w_Row_lines b9 h5 (fun (r12 : Int32) (h11 : xb_H) => xb_ext h5 h11 → w_Reader_readLocals x0 h11 bc6 bs6 (fun (r14 : Int32) (h13 : xb_H) (bc14 bs14 : Nat) => xb_ext h11 h13 → ∃ b15 : Nat, (xb_r h13 x0 0) = some b15 ∧ xb_k h13 b15 = 3 ∧ ∃ b17 : Nat, (xb_r h13 b15 11) = some b17 ∧ xb_k h13 b17 = 2 ∧ w_Row_add b17 (Int32.toInt64 (xb_i h13 x0 3)) h13 bc14 bs14 (fun (h19 : xb_H) (bc20 bs20 : Nat) => xb_ext h13 h19 → ∃ b21 : Nat, (xb_r h19 x0 0) = some b21 ∧ xb_k h19 b21 = 3 ∧ ∃ b23 : Nat, (xb_r h19 b21 11) = some b23 ∧ xb_k h19 b23 = 2 ∧ w_Row_add b23 (Int32.toInt64 r14) h19 bc20 bs20 (fun (h25 : xb_H) (bc26 bs26 : Nat) => xb_ext h19 h25 → ∃ b27 : Nat, (xb_r h25 x0 0) = some b27 ∧ xb_k h25 b27 = 3 ∧ ∃ b29 : Nat, (xb_r h25 b27 11) = some b29 ∧ xb_k h25 b29 = 2 ∧ w_Row_add b29 (Int32.toInt64 r12) h25 bc26 bs26 (fun (h31 : xb_H) (bc32 bs32 : Nat) => xb_ext h25 h31 → ∃ b33 : Nat, (xb_r h31 x0 0) = some b33 ∧ xb_k h31 b33 = 3 ∧ ∃ b35 : Nat, (xb_r h31 b33 11) = some b35 ∧ ∃ b36 : Nat, (xb_r h31 x0 0) = some b36 ∧ xb_k h31 b36 = 3 ∧ ∃ b38 : Nat, (xb_r h31 b36 12) = some b38 ∧ xb_k h31 b38 = 2 ∧ w_Row_lines b38 h31 (fun (r41 : Int32) (h40 : xb_H) => xb_ext h31 h40 → xb_k h40 b35 = 2 ∧ w_Row_add b35 (Int32.toInt64 (r41 - r12)) h40 bc32 bs32 (fun (h43 : xb_H) (bc44 bs44 : Nat) => xb_ext h40 h43 → ∃ b45 : Nat, (xb_r h43 x0 0) = some b45 ∧ xb_k h43 b45 = 3 ∧ ∃ b47 : Nat, (xb_r h43 b45 11) = some b47 ∧ xb_k h43 b47 = 2 ∧ w_Row_add b47 0 h43 bc44 bs44 (fun (h49 : xb_H) (bc50 bs50 : Nat) => xb_ext h43 h49 → w_Reader_readExpression x0 h49 bc50 bs50 (fun (h51 : xb_H) (bc52 bs52 : Nat) => xb_ext h49 h51 → (((xb_i h51 x0 4) ≤ (xb_i h51 x0 3) → w_Reader_readBody_L130 Qr Qt x0 v2 h51 bc52 bs52) ∧ (¬ (xb_i h51 x0 4) ≤ (xb_i h51 x0 3) → ∃ b54 : Nat, (xb_r h51 x0 0) = some b54 ∧ xb_k h51 b54 = 3 ∧ w_StackModule_fail b54 7 (xb_i h51 x0 3) h51 bc52 bs52 (fun (h56 : xb_H) (bc57 bs57 : Nat) => xb_ext h51 h56 → w_Reader_readBody_L130 Qr Qt x0 v2 h56 bc57 bs57) Qt))) Qt))))))) Qt)) Qt) Qt


def w_Reader_readData_L87 (Qr : xb_H → Nat → Nat → Prop) (Qt : String → xb_H → Nat → Nat → Prop) (x0 : Nat) (x1 : Int32) (h : xb_H) (bc : Nat) (bs : Nat) : Prop :=
    xb_k h x0 = 4 ∧ ∃ b2 : Nat, (xb_r h x0 0) = some b2 ∧ xb_k h b2 = 3 ∧ ∃ b4 : Nat, (xb_r h b2 13) = some b4 ∧ xb_k h b4 = 2 ∧ w_Row_add b4 (Int32.toInt64 (xb_i h x0 3)) h bc bs (fun (h6 : xb_H) (bc7 bs7 : Nat) => xb_ext h h6 → ∃ b8 : Nat, (xb_r h6 x0 0) = some b8 ∧ xb_k h6 b8 = 3 ∧ ∃ b10 : Nat, (xb_r h6 b8 13) = some b10 ∧ xb_k h6 b10 = 2 ∧ w_Row_add b10 (Int32.toInt64 x1) h6 bc7 bs7 (fun (h12 : xb_H) (bc13 bs13 : Nat) => xb_ext h6 h12 → ∀ h14 : xb_H, h14 = xb_I h12 x0 3 ((xb_i h12 x0 3) + x1) → Qr h14 bc13 bs13))

def w_Reader_readData_L75 (Qr : xb_H → Nat → Nat → Prop) (Qt : String → xb_H → Nat → Nat → Prop) (x0 : Nat) (x1 : Int32) (h : xb_H) (bc : Nat) (bs : Nat) : Prop :=
    xb_k h x0 = 4 ∧ ∃ b2 : Nat, (xb_r h x0 0) = some b2 ∧ xb_k h b2 = 3 ∧ w_StackModule_fail b2 2 (xb_i h x0 4) h bc bs (fun (h4 : xb_H) (bc5 bs5 : Nat) => xb_ext h h4 → w_Reader_readData_L87 Qr Qt x0 x1 h4 bc5 bs5) Qt

def w_Reader_readData (x0 : Nat) (h : xb_H) (bc : Nat) (bs : Nat) (Qr : xb_H → Nat → Nat → Prop) (Qt : String → xb_H → Nat → Nat → Prop) : Prop :=
    xb_k h x0 = 4 ∧ ∃ b2 : Nat, (xb_r h x0 0) = some b2 ∧ xb_k h b2 = 3 ∧ ∃ b4 : Nat, (xb_r h b2 13) = some b4 ∧ xb_k h b4 = 2 ∧ w_Row_add b4 (Int32.toInt64 (xb_i h x0 3)) h bc bs (fun (h6 : xb_H) (bc7 bs7 : Nat) => xb_ext h h6 → ∃ b8 : Nat, (xb_r h6 x0 0) = some b8 ∧ xb_k h6 b8 = 3 ∧ ∃ b10 : Nat, (xb_r h6 b8 13) = some b10 ∧ w_Reader_count x0 h6 bc7 bs7 (fun (r12 : Int32) (h11 : xb_H) (bc12 bs12 : Nat) => xb_ext h6 h11 → xb_k h11 b10 = 2 ∧ w_Row_add b10 ((Int32.toInt64 r12) &&& 4294967295) h11 bc12 bs12 (fun (h14 : xb_H) (bc15 bs15 : Nat) => xb_ext h11 h14 → ∃ b16 : Nat, (xb_r h14 x0 0) = some b16 ∧ xb_k h14 b16 = 3 ∧ ∃ b18 : Nat, (xb_r h14 b16 13) = some b18 ∧ xb_k h14 b18 = 2 ∧ w_Row_add b18 (Int32.toInt64 (xb_i h14 x0 3)) h14 bc15 bs15 (fun (h20 : xb_H) (bc21 bs21 : Nat) => xb_ext h14 h20 → w_Reader_readExpression x0 h20 bc21 bs21 (fun (h22 : xb_H) (bc23 bs23 : Nat) => xb_ext h20 h22 → w_Reader_count x0 h22 bc23 bs23 (fun (r25 : Int32) (h24 : xb_H) (bc25 bs25 : Nat) => xb_ext h22 h24 → ((r25 < (0 : Int32) → w_Reader_readData_L75 Qr Qt x0 r25 h24 bc25 bs25) ∧ (¬ r25 < (0 : Int32) → ((r25 ≤ ((xb_i h24 x0 4) - (xb_i h24 x0 3)) → w_Reader_readData_L87 Qr Qt x0 r25 h24 bc25 bs25) ∧ (¬ r25 ≤ ((xb_i h24 x0 4) - (xb_i h24 x0 3)) → w_Reader_readData_L75 Qr Qt x0 r25 h24 bc25 bs25))))) Qt) Qt))) Qt)


def w_Reader_readElements_L97 (Qr : xb_H → Nat → Nat → Prop) (Qt : String → xb_H → Nat → Nat → Prop) : Nat → Nat → Int64 → Int64 → xb_H → Nat → Nat → Prop
  | 0, _, _, _, _, _, _ => False
  | n9 + 1, x0, x1, x3, h, bc, bs =>
    ((x1 ≤ x3 → Qr h bc bs) ∧ (¬ x1 ≤ x3 → xb_k h x0 = 4 ∧ ∃ b3 : Nat, (xb_r h x0 0) = some b3 ∧ xb_k h b3 = 3 ∧ ∃ b5 : Nat, (xb_r h b3 10) = some b5 ∧ xb_k h b5 = 2 ∧ w_Row_add b5 (Int32.toInt64 (xb_i h x0 3)) h bc bs (fun (h7 : xb_H) (bc8 bs8 : Nat) => xb_ext h h7 → ∃ b9 : Nat, (xb_r h7 x0 0) = some b9 ∧ xb_k h7 b9 = 3 ∧ ∃ b11 : Nat, (xb_r h7 b9 10) = some b11 ∧ w_Reader_count x0 h7 bc8 bs8 (fun (r13 : Int32) (h12 : xb_H) (bc13 bs13 : Nat) => xb_ext h7 h12 → xb_k h12 b11 = 2 ∧ w_Row_add b11 ((Int32.toInt64 r13) &&& 4294967295) h12 bc13 bs13 (fun (h15 : xb_H) (bc16 bs16 : Nat) => xb_ext h12 h15 → ∀ v17 : Int64, v17 = (x3 + 1) → w_Reader_readElements_L97 Qr Qt n9 x0 x1 v17 h15 bc16 bs16)) Qt)))

def w_Reader_readElements (x0 : Nat) (h : xb_H) (bc : Nat) (bs : Nat) (Qr : xb_H → Nat → Nat → Prop) (Qt : String → xb_H → Nat → Nat → Prop) : Prop :=
    xb_k h x0 = 4 ∧ ∃ b2 : Nat, (xb_r h x0 0) = some b2 ∧ xb_k h b2 = 3 ∧ ∃ b4 : Nat, (xb_r h b2 9) = some b4 ∧ xb_k h b4 = 2 ∧ w_Row_add b4 (Int32.toInt64 (xb_i h x0 3)) h bc bs (fun (h6 : xb_H) (bc7 bs7 : Nat) => xb_ext h h6 → ∃ b8 : Nat, (xb_r h6 x0 0) = some b8 ∧ xb_k h6 b8 = 3 ∧ ∃ b10 : Nat, (xb_r h6 b8 9) = some b10 ∧ w_Reader_count x0 h6 bc7 bs7 (fun (r12 : Int32) (h11 : xb_H) (bc12 bs12 : Nat) => xb_ext h6 h11 → xb_k h11 b10 = 2 ∧ w_Row_add b10 ((Int32.toInt64 r12) &&& 4294967295) h11 bc12 bs12 (fun (h14 : xb_H) (bc15 bs15 : Nat) => xb_ext h11 h14 → ∃ b16 : Nat, (xb_r h14 x0 0) = some b16 ∧ xb_k h14 b16 = 3 ∧ ∃ b18 : Nat, (xb_r h14 b16 9) = some b18 ∧ xb_k h14 b18 = 2 ∧ w_Row_add b18 (Int32.toInt64 (xb_i h14 x0 3)) h14 bc15 bs15 (fun (h20 : xb_H) (bc21 bs21 : Nat) => xb_ext h14 h20 → w_Reader_readExpression x0 h20 bc21 bs21 (fun (h22 : xb_H) (bc23 bs23 : Nat) => xb_ext h20 h22 → w_Reader_count x0 h22 bc23 bs23 (fun (r25 : Int32) (h24 : xb_H) (bc25 bs25 : Nat) => xb_ext h22 h24 → ∀ v26 : Int64, v26 = ((Int32.toInt64 r25) &&& 4294967295) → ∃ b27 : Nat, (xb_r h24 x0 0) = some b27 ∧ xb_k h24 b27 = 3 ∧ ∃ b29 : Nat, (xb_r h24 b27 9) = some b29 ∧ ∃ b30 : Nat, (xb_r h24 x0 0) = some b30 ∧ xb_k h24 b30 = 3 ∧ ∃ b32 : Nat, (xb_r h24 b30 10) = some b32 ∧ xb_k h24 b32 = 2 ∧ w_Row_lines b32 h24 (fun (r35 : Int32) (h34 : xb_H) => xb_ext h24 h34 → xb_k h34 b29 = 2 ∧ w_Row_add b29 (Int32.toInt64 r35) h34 bc25 bs25 (fun (h37 : xb_H) (bc38 bs38 : Nat) => xb_ext h34 h37 → ∃ b39 : Nat, (xb_r h37 x0 0) = some b39 ∧ xb_k h37 b39 = 3 ∧ ∃ b41 : Nat, (xb_r h37 b39 9) = some b41 ∧ xb_k h37 b41 = 2 ∧ w_Row_add b41 v26 h37 bc38 bs38 (fun (h43 : xb_H) (bc44 bs44 : Nat) => xb_ext h37 h43 → (∃ n8 : Nat, w_Reader_readElements_L97 Qr Qt n8 x0 v26 0 h43 bc44 bs44))))) Qt) Qt))) Qt)


def w_Reader_readImport_L254 (Qr : xb_H → Nat → Nat → Prop) (Qt : String → xb_H → Nat → Nat → Prop) (h : xb_H) (bc : Nat) (bs : Nat) : Prop :=
    Qr h bc bs

set_option maxRecDepth 100000 in
def w_Reader_readImport (x0 : Nat) (h : xb_H) (bc : Nat) (bs : Nat) (Qr : xb_H → Nat → Nat → Prop) (Qt : String → xb_H → Nat → Nat → Prop) : Prop :=
    xb_k h x0 = 4 ∧ ∀ v2 : Int32, v2 = (xb_i h x0 3) → w_Reader_readName x0 h bc bs (fun (r4 : Int32) (h3 : xb_H) (bc4 bs4 : Nat) => xb_ext h h3 → ∀ v5 : Int32, v5 = ((xb_i h3 x0 3) - r4) → w_Reader_readName x0 h3 bc4 bs4 (fun (r7 : Int32) (h6 : xb_H) (bc7 bs7 : Nat) => xb_ext h3 h6 → ∀ v8 : Int32, v8 = ((xb_i h6 x0 3) - r7) → w_Reader_byteUpTo x0 3 h6 bc7 bs7 (fun (r10 : Int32) (h9 : xb_H) (bc10 bs10 : Nat) => xb_ext h6 h9 → ∃ b11 : Nat, (xb_r h9 x0 0) = some b11 ∧ xb_k h9 b11 = 3 ∧ ∃ b13 : Nat, (xb_r h9 b11 3) = some b13 ∧ xb_k h9 b13 = 2 ∧ w_Row_add b13 (Int32.toInt64 v2) h9 bc10 bs10 (fun (h15 : xb_H) (bc16 bs16 : Nat) => xb_ext h9 h15 → ∃ b17 : Nat, (xb_r h15 x0 0) = some b17 ∧ xb_k h15 b17 = 3 ∧ ∃ b19 : Nat, (xb_r h15 b17 3) = some b19 ∧ xb_k h15 b19 = 2 ∧ w_Row_add b19 (Int32.toInt64 r10) h15 bc16 bs16 (fun (h21 : xb_H) (bc22 bs22 : Nat) => xb_ext h15 h21 → ∃ b23 : Nat, (xb_r h21 x0 0) = some b23 ∧ xb_k h21 b23 = 3 ∧ ∃ b25 : Nat, (xb_r h21 b23 3) = some b25 ∧ ∃ b26 : Nat, (xb_r h21 x0 0) = some b26 ∧ xb_k h21 b26 = 3 ∧ ∃ b28 : Nat, (xb_r h21 b26 14) = some b28 ∧ xb_k h21 b28 = 102 ∧ vp_in r10 (xb_n h21 b28) ∧ xb_k h21 b25 = 2 ∧ w_Row_add b25 (Int32.toInt64 (xb_i h21 b28 (Int32.toNatClampNeg r10))) h21 bc22 bs22 (fun (h32 : xb_H) (bc33 bs33 : Nat) => xb_ext h21 h32 → ∃ b34 : Nat, (xb_r h32 x0 0) = some b34 ∧ xb_k h32 b34 = 3 ∧ ∃ b36 : Nat, (xb_r h32 b34 3) = some b36 ∧ xb_k h32 b36 = 2 ∧ w_Row_add b36 (Int32.toInt64 v5) h32 bc33 bs33 (fun (h38 : xb_H) (bc39 bs39 : Nat) => xb_ext h32 h38 → ∃ b40 : Nat, (xb_r h38 x0 0) = some b40 ∧ xb_k h38 b40 = 3 ∧ ∃ b42 : Nat, (xb_r h38 b40 3) = some b42 ∧ xb_k h38 b42 = 2 ∧ w_Row_add b42 (Int32.toInt64 r4) h38 bc39 bs39 (fun (h44 : xb_H) (bc45 bs45 : Nat) => xb_ext h38 h44 → ∃ b46 : Nat, (xb_r h44 x0 0) = some b46 ∧ xb_k h44 b46 = 3 ∧ ∃ b48 : Nat, (xb_r h44 b46 3) = some b48 ∧ xb_k h44 b48 = 2 ∧ w_Row_add b48 (Int32.toInt64 v8) h44 bc45 bs45 (fun (h50 : xb_H) (bc51 bs51 : Nat) => xb_ext h44 h50 → ∃ b52 : Nat, (xb_r h50 x0 0) = some b52 ∧ xb_k h50 b52 = 3 ∧ ∃ b54 : Nat, (xb_r h50 b52 3) = some b54 ∧ xb_k h50 b54 = 2 ∧ w_Row_add b54 (Int32.toInt64 r7) h50 bc51 bs51 (fun (h56 : xb_H) (bc57 bs57 : Nat) => xb_ext h50 h56 → ∃ b58 : Nat, (xb_r h56 x0 0) = some b58 ∧ xb_k h56 b58 = 3 ∧ ∃ b60 : Nat, (xb_r h56 b58 14) = some b60 ∧ xb_k h56 b60 = 102 ∧ vp_in r10 (xb_n h56 b60) ∧ vp_in r10 (xb_n h56 b60) ∧ ∀ h64 : xb_H, h64 = xb_I h56 b60 (Int32.toNatClampNeg r10) ((xb_i h56 b60 (Int32.toNatClampNeg r10)) + 1) → ((¬ r10 = (0 : Int32) → ((¬ r10 = (1 : Int32) → ((¬ r10 = (2 : Int32) → w_Reader_readVariableType x0 v2 h64 bc57 bs57 (fun (h68 : xb_H) (bc69 bs69 : Nat) => xb_ext h64 h68 → ∃ b70 : Nat, (xb_r h68 x0 0) = some b70 ∧ xb_k h68 b70 = 3 ∧ ∃ b72 : Nat, (xb_r h68 b70 7) = some b72 ∧ xb_k h68 b72 = 2 ∧ w_Row_add b72 (-1) h68 bc69 bs69 (fun (h74 : xb_H) (bc75 bs75 : Nat) => xb_ext h68 h74 → w_Reader_readImport_L254 Qr Qt h74 bc75 bs75)) Qt) ∧ (r10 = (2 : Int32) → ∃ b76 : Nat, (xb_r h64 x0 0) = some b76 ∧ xb_k h64 b76 = 3 ∧ ∃ b78 : Nat, (xb_r h64 b76 6) = some b78 ∧ w_Reader_readLimits x0 b78 v2 h64 bc57 bs57 (fun (h79 : xb_H) (bc80 bs80 : Nat) => xb_ext h64 h79 → w_Reader_readImport_L254 Qr Qt h79 bc80 bs80) Qt))) ∧ (r10 = (1 : Int32) → w_Reader_readMark x0 112 h64 bc57 bs57 (fun (h81 : xb_H) (bc82 bs82 : Nat) => xb_ext h64 h81 → ∃ b83 : Nat, (xb_r h81 x0 0) = some b83 ∧ xb_k h81 b83 = 3 ∧ ∃ b85 : Nat, (xb_r h81 b83 5) = some b85 ∧ w_Reader_readLimits x0 b85 v2 h81 bc82 bs82 (fun (h86 : xb_H) (bc87 bs87 : Nat) => xb_ext h81 h86 → w_Reader_readImport_L254 Qr Qt h86 bc87 bs87) Qt) Qt))) ∧ (r10 = (0 : Int32) → ∃ b88 : Nat, (xb_r h64 x0 0) = some b88 ∧ xb_k h64 b88 = 3 ∧ ∃ b90 : Nat, (xb_r h64 b88 4) = some b90 ∧ xb_k h64 b90 = 2 ∧ w_Row_add b90 (Int32.toInt64 v2) h64 bc57 bs57 (fun (h92 : xb_H) (bc93 bs93 : Nat) => xb_ext h64 h92 → ∃ b94 : Nat, (xb_r h92 x0 0) = some b94 ∧ xb_k h92 b94 = 3 ∧ ∃ b96 : Nat, (xb_r h92 b94 4) = some b96 ∧ w_Reader_count x0 h92 bc93 bs93 (fun (r98 : Int32) (h97 : xb_H) (bc98 bs98 : Nat) => xb_ext h92 h97 → xb_k h97 b96 = 2 ∧ w_Row_add b96 ((Int32.toInt64 r98) &&& 4294967295) h97 bc98 bs98 (fun (h100 : xb_H) (bc101 bs101 : Nat) => xb_ext h97 h100 → w_Reader_readImport_L254 Qr Qt h100 bc101 bs101)) Qt))))))))))) Qt) Qt) Qt


def w_Reader_readTable (x0 : Nat) (h : xb_H) (bc : Nat) (bs : Nat) (Qr : xb_H → Nat → Nat → Prop) (Qt : String → xb_H → Nat → Nat → Prop) : Prop :=
    xb_k h x0 = 4 ∧ ∀ v2 : Int32, v2 = (xb_i h x0 3) → w_Reader_readMark x0 112 h bc bs (fun (h3 : xb_H) (bc4 bs4 : Nat) => xb_ext h h3 → ∃ b5 : Nat, (xb_r h3 x0 0) = some b5 ∧ xb_k h3 b5 = 3 ∧ ∃ b7 : Nat, (xb_r h3 b5 5) = some b7 ∧ w_Reader_readLimits x0 b7 v2 h3 bc4 bs4 (fun (h8 : xb_H) (bc9 bs9 : Nat) => xb_ext h3 h8 → Qr h8 bc9 bs9) Qt) Qt


def w_Reader_readType_L109 (Qr : xb_H → Nat → Nat → Prop) (Qt : String → xb_H → Nat → Nat → Prop) (y0 : Int64) (y1 : Nat) (h : xb_H) (bc : Nat) (bs : Nat) : Prop :=
    xb_k h y1 = 2 ∧ w_Row_add y1 y0 h bc bs (fun (h2 : xb_H) (bc3 bs3 : Nat) => xb_ext h h2 → Qr h2 bc3 bs3)

def w_Reader_readType (x0 : Nat) (h : xb_H) (bc : Nat) (bs : Nat) (Qr : xb_H → Nat → Nat → Prop) (Qt : String → xb_H → Nat → Nat → Prop) : Prop :=
    xb_k h x0 = 4 ∧ ∀ v2 : Int32, v2 = (xb_i h x0 3) → w_Reader_readMark x0 96 h bc bs (fun (h3 : xb_H) (bc4 bs4 : Nat) => xb_ext h h3 → w_Reader_readTypes x0 h3 bc4 bs4 (fun (r6 : Int32) (h5 : xb_H) (bc6 bs6 : Nat) => xb_ext h3 h5 → ∀ v7 : Int32, v7 = ((xb_i h5 x0 3) - r6) → w_Reader_readTypes x0 h5 bc6 bs6 (fun (r9 : Int32) (h8 : xb_H) (bc9 bs9 : Nat) => xb_ext h5 h8 → ∃ b10 : Nat, (xb_r h8 x0 0) = some b10 ∧ xb_k h8 b10 = 3 ∧ ∃ b12 : Nat, (xb_r h8 b10 2) = some b12 ∧ xb_k h8 b12 = 2 ∧ w_Row_add b12 (Int32.toInt64 v2) h8 bc9 bs9 (fun (h14 : xb_H) (bc15 bs15 : Nat) => xb_ext h8 h14 → ∃ b16 : Nat, (xb_r h14 x0 0) = some b16 ∧ xb_k h14 b16 = 3 ∧ ∃ b18 : Nat, (xb_r h14 b16 2) = some b18 ∧ xb_k h14 b18 = 2 ∧ w_Row_add b18 (Int32.toInt64 v7) h14 bc15 bs15 (fun (h20 : xb_H) (bc21 bs21 : Nat) => xb_ext h14 h20 → ∃ b22 : Nat, (xb_r h20 x0 0) = some b22 ∧ xb_k h20 b22 = 3 ∧ ∃ b24 : Nat, (xb_r h20 b22 2) = some b24 ∧ xb_k h20 b24 = 2 ∧ w_Row_add b24 (Int32.toInt64 r6) h20 bc21 bs21 (fun (h26 : xb_H) (bc27 bs27 : Nat) => xb_ext h20 h26 → ∃ b28 : Nat, (xb_r h26 x0 0) = some b28 ∧ xb_k h26 b28 = 3 ∧ ∃ b30 : Nat, (xb_r h26 b28 2) = some b30 ∧ xb_k h26 b30 = 2 ∧ w_Row_add b30 (Int32.toInt64 r9) h26 bc27 bs27 (fun (h32 : xb_H) (bc33 bs33 : Nat) => xb_ext h26 h32 → ∃ b34 : Nat, (xb_r h32 x0 0) = some b34 ∧ xb_k h32 b34 = 3 ∧ ∃ b36 : Nat, (xb_r h32 b34 2) = some b36 ∧ ((¬ r9 = (0 : Int32) → ∃ b38 : Nat, (xb_r h32 x0 1) = some b38 ∧ xb_k h32 b38 = 100 ∧ vp_in ((xb_i h32 x0 3) - r9) (xb_n h32 b38) ∧ w_Reader_readType_L109 Qr Qt (Int32.toInt64 (xb_i h32 b38 (Int32.toNatClampNeg ((xb_i h32 x0 3) - r9)))) b36 h32 bc33 bs33) ∧ (r9 = (0 : Int32) → w_Reader_readType_L109 Qr Qt 64 b36 h32 bc33 bs33))))))) Qt) Qt) Qt


def w_Reader_readVariable (x0 : Nat) (h : xb_H) (bc : Nat) (bs : Nat) (Qr : xb_H → Nat → Nat → Prop) (Qt : String → xb_H → Nat → Nat → Prop) : Prop :=
    xb_k h x0 = 4 ∧ w_Reader_readVariableType x0 (xb_i h x0 3) h bc bs (fun (h2 : xb_H) (bc3 bs3 : Nat) => xb_ext h h2 → ∃ b4 : Nat, (xb_r h2 x0 0) = some b4 ∧ xb_k h2 b4 = 3 ∧ ∃ b6 : Nat, (xb_r h2 b4 7) = some b6 ∧ xb_k h2 b6 = 2 ∧ w_Row_add b6 (Int32.toInt64 (xb_i h2 x0 3)) h2 bc3 bs3 (fun (h8 : xb_H) (bc9 bs9 : Nat) => xb_ext h2 h8 → w_Reader_readExpression x0 h8 bc9 bs9 (fun (h10 : xb_H) (bc11 bs11 : Nat) => xb_ext h8 h10 → Qr h10 bc11 bs11) Qt)) Qt


def w_World_lookUp_L183 (σ : Nat) (Qr : Int32 → xb_H → Nat → Nat → Prop) (y0 : Int32) (h : xb_H) (bc : Nat) (bs : Nat) : Prop :=
    Qr y0 h bc bs

def w_World_lookUp_L55 (σ : Nat) (Qr : Int32 → xb_H → Nat → Nat → Prop) (x0 : Nat) (x1 : Nat) (x2 : Int32) (x3 : Nat) (x4 : Int32) (x5 : Int32) (h : xb_H) (bc : Nat) (bs : Nat) : Prop :=
    xb_k h x1 = 3 ∧ ∃ b2 : Nat, (xb_r h x1 0) = some b2 ∧ xb_k h x0 = 7 ∧ w_World_instanceNamed x0 b2 x4 x5 h (fun (r5 : Int32) (h4 : xb_H) => xb_ext h h4 → ((¬ r5 = ((-1) : Int32) → ∃ b7 : Nat, (xb_r h4 x0 0) = some b7 ∧ xb_k h4 b7 = 105 ∧ vp_in r5 (xb_n h4 b7) ∧ ∃ b10 : Nat, (xb_r h4 b7 (Int32.toNatClampNeg r5)) = some b10 ∧ xb_k h4 b10 = 11 ∧ ∃ b12 : Nat, (xb_r h4 b10 1) = some b12 ∧ xb_k h4 x3 = 2 ∧ w_Row_at x3 x2 5 h4 (fun (r15 : Int32) (h14 : xb_H) => xb_ext h4 h14 → ∃ b16 : Nat, (xb_r h14 x1 0) = some b16 ∧ w_Row_at x3 x2 6 h14 (fun (r18 : Int32) (h17 : xb_H) => xb_ext h14 h17 → xb_k h17 b12 = 3 ∧ w_StackModule_exportNamed b12 b16 r15 r18 h17 (fun (r21 : Int32) (h20 : xb_H) => xb_ext h17 h20 → ((¬ r21 = ((-1) : Int32) → ∃ b23 : Nat, (xb_r h20 b12 8) = some b23 ∧ xb_k h20 b23 = 2 ∧ w_Row_at b23 r21 1 h20 (fun (r26 : Int32) (h25 : xb_H) => xb_ext h20 h25 → w_Row_at x3 x2 1 h25 (fun (r28 : Int32) (h27 : xb_H) => xb_ext h25 h27 → ((r26 = r28 → ∃ b30 : Nat, (xb_r h27 x0 0) = some b30 ∧ xb_k h27 b30 = 105 ∧ vp_in r5 (xb_n h27 b30) ∧ ∃ b33 : Nat, (xb_r h27 b30 (Int32.toNatClampNeg r5)) = some b33 ∧ ∃ b34 : Nat, (xb_r h27 b12 8) = some b34 ∧ xb_k h27 b34 = 2 ∧ w_Row_at b34 r21 2 h27 (fun (r37 : Int32) (h36 : xb_H) => xb_ext h27 h36 → w_World_takeOver x0 x1 x2 b33 r37 h36 bc bs (fun (r39 : Int32) (h38 : xb_H) (bc39 bs39 : Nat) => xb_ext h36 h38 → ((r39 = (0 : Int32) → w_World_lookUp_L183 σ Qr 43 h38 bc39 bs39) ∧ (¬ r39 = (0 : Int32) → w_World_lookUp_L183 σ Qr 0 h38 bc39 bs39))))) ∧ (¬ r26 = r28 → Qr 43 h27 bc bs))))) ∧ (r21 = ((-1) : Int32) → Qr 42 h20 bc bs)))))) ∧ (r5 = ((-1) : Int32) → Qr 41 h4 bc bs)))

def w_World_lookUp (σ : Nat) (x0 : Nat) (x1 : Nat) (x2 : Int32) (h : xb_H) (bc : Nat) (bs : Nat) (Qr : Int32 → xb_H → Nat → Nat → Prop) : Prop :=
    xb_k h x1 = 3 ∧ ∃ b2 : Nat, (xb_r h x1 3) = some b2 ∧ xb_k h b2 = 2 ∧ w_Row_at b2 x2 3 h (fun (r5 : Int32) (h4 : xb_H) => xb_ext h h4 → w_Row_at b2 x2 4 h4 (fun (r7 : Int32) (h6 : xb_H) => xb_ext h4 h6 → ((¬ r7 = (4 : Int32) → w_World_lookUp_L55 σ Qr x0 x1 x2 b2 r5 r7 h6 bc bs) ∧ (r7 = (4 : Int32) → ∃ b10 : Nat, (xb_r h6 x1 0) = some b10 ∧ w_StackModule_sameBytesS b10 r5 0 r7 h6 (fun (r12 : Int32) (h11 : xb_H) => xb_ext h6 h11 → ((r12 = (0 : Int32) → w_World_lookUp_L55 σ Qr x0 x1 x2 b2 r5 r7 h11 bc bs) ∧ (¬ r12 = (0 : Int32) → xb_k h11 x0 = 7 ∧ w_World_lookUpAtHost x0 x1 x2 h11 bc bs (fun (r16 : Int32) (h15 : xb_H) (bc16 bs16 : Nat) => xb_ext h11 h15 → Qr r16 h15 bc16 bs16))))))))


def w_World_make_L229 (Qr : Int32 → xb_H → Nat → Nat → Prop) (x0 : Nat) (x2 : Nat) (h : xb_H) (bc : Nat) (bs : Nat) : Prop :=
    xb_k h x0 = 7 ∧ w_World_writeElements x0 x2 h (fun (h2 : xb_H) => xb_ext h h2 → w_World_writeData x0 x2 h2 (fun (h4 : xb_H) => xb_ext h2 h4 → xb_k h4 x2 = 11 ∧ Qr (xb_i h4 x2 0) h4 bc bs))

def w_World_make_L171 (Qr : Int32 → xb_H → Nat → Nat → Prop) (x0 : Nat) (x1 : Nat) (x2 : Nat) (h : xb_H) (bc : Nat) (bs : Nat) : Prop :=
    xb_k h x1 = 3 ∧ ∃ b2 : Nat, (xb_r h x1 6) = some b2 ∧ xb_k h b2 = 2 ∧ w_Row_lines b2 h (fun (r5 : Int32) (h4 : xb_H) => xb_ext h h4 → ∃ b6 : Nat, (xb_r h4 x1 14) = some b6 ∧ xb_k h4 b6 = 102 ∧ vp_in 2 (xb_n h4 b6) ∧ ((r5 ≤ (xb_i h4 b6 2) → w_World_make_L229 Qr x0 x2 h4 bc bs) ∧ (¬ r5 ≤ (xb_i h4 b6 2) → 1 ≤ bc ∧ 4 ≤ bs ∧ ∀ q10 : Nat, xb_k h4 q10 = 0 → ∀ h11 : xb_H, h11 = xb_new h4 q10 13 0 → xb_k h11 x0 = 7 ∧ ∃ b14 : Nat, (xb_r h11 x0 5) = some b14 ∧ ∃ b15 : Nat, (xb_r h11 x1 6) = some b15 ∧ xb_k h11 b15 = 2 ∧ w_Row_longAt b15 0 2 h11 (fun (r18 : Int64) (h17 : xb_H) => xb_ext h11 h17 → w_Memory_init q10 b14 r18 h17 (bc - 1) (bs - 4) (fun (h19 : xb_H) (bc20 bs20 : Nat) => xb_ext h17 h19 → xb_k h19 x2 = 11 ∧ ∀ h22 : xb_H, h22 = xb_P h19 x2 7 (some q10) → ∃ b23 : Nat, (xb_r h22 x2 7) = some b23 ∧ ∃ b24 : Nat, (xb_r h22 x1 6) = some b24 ∧ w_World_ownLeast x1 b24 2 h22 (fun (r26 : Int64) (h25 : xb_H) => xb_ext h22 h25 → w_World_grow x0 b23 r26 h25 bc20 bs20 (fun (r28 : Int32) (h27 : xb_H) (bc28 bs28 : Nat) => xb_ext h25 h27 → w_World_make_L229 Qr x0 x2 h27 bc28 bs28)))))))

def w_World_make_L67 (Qr : Int32 → xb_H → Nat → Nat → Prop) : Nat → Nat → Nat → Nat → Int32 → xb_H → Nat → Nat → Prop
  | 0, _, _, _, _, _, _, _ => False
  | n9 + 1, x0, x1, x2, x3, h, bc, bs =>
    xb_k h x1 = 3 ∧ ∃ b2 : Nat, (xb_r h x1 7) = some b2 ∧ xb_k h b2 = 2 ∧ w_Row_lines b2 h (fun (r5 : Int32) (h4 : xb_H) => xb_ext h h4 → ((r5 ≤ x3 → ∃ b7 : Nat, (xb_r h4 x1 5) = some b7 ∧ xb_k h4 b7 = 2 ∧ w_Row_lines b7 h4 (fun (r10 : Int32) (h9 : xb_H) => xb_ext h4 h9 → ∃ b11 : Nat, (xb_r h9 x1 14) = some b11 ∧ xb_k h9 b11 = 102 ∧ vp_in 1 (xb_n h9 b11) ∧ ((r10 ≤ (xb_i h9 b11 1) → w_World_make_L171 Qr x0 x1 x2 h9 bc bs) ∧ (¬ r10 ≤ (xb_i h9 b11 1) → ∃ b15 : Nat, (xb_r h9 x1 5) = some b15 ∧ w_World_ownLeast x1 b15 1 h9 (fun (r17 : Int64) (h16 : xb_H) => xb_ext h9 h16 → ∀ v18 : Int32, v18 = (Int64.toInt32 r17) → 1 ≤ bc ∧ 3 ≤ bs ∧ ∀ q19 : Nat, xb_k h16 q19 = 0 → ∀ h20 : xb_H, h20 = xb_new h16 q19 12 0 → xb_k h20 x0 = 7 ∧ ∃ b23 : Nat, (xb_r h20 x0 4) = some b23 ∧ xb_k h20 b23 = 2 ∧ ∃ b25 : Nat, (xb_r h20 x1 5) = some b25 ∧ xb_k h20 b25 = 2 ∧ w_Row_longAt b25 0 2 h20 (fun (r28 : Int64) (h27 : xb_H) => xb_ext h20 h27 → w_Table_init q19 (xb_i h20 b23 1) v18 r28 h27 (fun (h29 : xb_H) => xb_ext h27 h29 → xb_k h29 x2 = 11 ∧ ∀ h32 : xb_H, h32 = xb_P h29 x2 6 (some q19) → ∃ b33 : Nat, (xb_r h32 x0 4) = some b33 ∧ xb_k h32 b33 = 2 ∧ w_Row_addMany b33 v18 (-1) h32 (bc - 1) (bs - 3) (fun (h35 : xb_H) (bc36 bs36 : Nat) => xb_ext h32 h35 → w_World_make_L171 Qr x0 x1 x2 h35 bc36 bs36)))))))) ∧ (¬ r5 ≤ x3 → xb_k h4 x0 = 7 ∧ ∃ b38 : Nat, (xb_r h4 x0 3) = some b38 ∧ ∃ b39 : Nat, (xb_r h4 x1 7) = some b39 ∧ xb_k h4 b39 = 2 ∧ w_Row_at b39 x3 3 h4 (fun (r42 : Int32) (h41 : xb_H) => xb_ext h4 h41 → w_World_valueOf x0 x1 r42 h41 (fun (r44 : Int64) (h43 : xb_H) => xb_ext h41 h43 → xb_k h43 b38 = 2 ∧ w_Row_add b38 r44 h43 bc bs (fun (h46 : xb_H) (bc47 bs47 : Nat) => xb_ext h43 h46 → w_World_make_L67 Qr n9 x0 x1 x2 (x3 + 1) h46 bc47 bs47))))))

def w_World_make (x0 : Nat) (x1 : Nat) (h : xb_H) (bc : Nat) (bs : Nat) (Qr : Int32 → xb_H → Nat → Nat → Prop) : Prop :=
    1 ≤ bc ∧ 8 ≤ bs ∧ ∀ q1 : Nat, xb_k h q1 = 0 → ∀ h2 : xb_H, h2 = xb_new h q1 11 0 → xb_k h2 x0 = 7 ∧ w_Instance_init q1 (xb_i h2 x0 1) x1 x0 h2 (bc - 1) (bs - 8) (fun (h5 : xb_H) (bc6 bs6 : Nat) => xb_ext h2 h5 → ∃ b7 : Nat, (xb_r h5 x0 0) = some b7 ∧ xb_k h5 b7 = 105 ∧ vp_in (xb_i h5 x0 1) (xb_n h5 b7) ∧ ∀ h10 : xb_H, h10 = xb_P h5 b7 (Int32.toNatClampNeg (xb_i h5 x0 1)) (some q1) → ∀ h11 : xb_H, h11 = xb_I h10 x0 1 ((xb_i h10 x0 1) + 1) → ∃ b12 : Nat, (xb_r h11 x0 2) = some b12 ∧ xb_k h11 x1 = 3 ∧ ∃ b14 : Nat, (xb_r h11 x1 4) = some b14 ∧ xb_k h11 b14 = 2 ∧ w_Row_lines b14 h11 (fun (r17 : Int32) (h16 : xb_H) => xb_ext h11 h16 → ∃ b18 : Nat, (xb_r h16 x1 14) = some b18 ∧ xb_k h16 b18 = 102 ∧ vp_in 0 (xb_n h16 b18) ∧ xb_k h16 b12 = 2 ∧ w_Row_addMany b12 (r17 - (xb_i h16 b18 0)) (Int32.toInt64 (xb_i h16 q1 0)) h16 bc6 bs6 (fun (h22 : xb_H) (bc23 bs23 : Nat) => xb_ext h16 h22 → ∃ b24 : Nat, (xb_r h22 x1 14) = some b24 ∧ xb_k h22 b24 = 102 ∧ vp_in 3 (xb_n h22 b24) ∧ ∀ v27 : Int32, v27 = (xb_i h22 b24 3) → (∃ n8 : Nat, w_World_make_L67 Qr n8 x0 x1 q1 v27 h22 bc23 bs23))))


def w_Law_find (x0 : Nat) (x1 : Int32) (x2 : Nat) (h : xb_H) (bc : Nat) (bs : Nat) (Qr : Int32 → xb_H → Nat → Nat → Prop) : Prop :=
    xb_k h x0 = 1 ∧ w_H_find x0 x1 h bc bs (fun (r3 : Int32) (h2 : xb_H) (bc3 bs3 : Nat) => xb_ext h h2 → xb_k h2 x2 = 103 ∧ vp_in 0 (xb_n h2 x2) ∧ ∀ h6 : xb_H, h6 = xb_L h2 x2 (Int32.toNatClampNeg 0) (Int32.toInt64 r3) → Qr 0 h6 bc3 bs3) (fun (XX : String) (h2 : xb_H) (bc3 bs3 : Nat) => xb_ext h h2 → ∀ ax : Nat, (XX = "java/lang/IndexOutOfBoundsException" ∧ Qr 1 h2 bc3 bs3))


def w_Law_invoke (x0 : Nat) (x1 : Int32) (x2 : Int32) (h : xb_H) (bc : Nat) (bs : Nat) (Qr : Int32 → xb_H → Nat → Nat → Prop) : Prop :=
    xb_k h x0 = 1 ∧ w_H_invoke x0 x1 x2 h bc bs (fun (h2 : xb_H) (bc3 bs3 : Nat) => xb_ext h h2 → Qr 0 h2 bc3 bs3) (fun (XX : String) (h2 : xb_H) (bc3 bs3 : Nat) => xb_ext h h2 → ∀ ax : Nat, (XX = "java/lang/IllegalArgumentException" ∧ Qr 2 h2 bc3 bs3) ∨ (XX = "java/lang/IllegalStateException" ∧ Qr 3 h2 bc3 bs3) ∨ (XX = "java/lang/IndexOutOfBoundsException" ∧ Qr 1 h2 bc3 bs3))


def w_Law_push (x0 : Nat) (x1 : Int64) (x3 : Nat) (h : xb_H) (bc : Nat) (bs : Nat) (Qr : Int32 → xb_H → Nat → Nat → Prop) : Prop :=
    xb_k h x0 = 1 ∧ w_H_push x0 x1 h bc bs (fun (r3 : Int32) (h2 : xb_H) (bc3 bs3 : Nat) => xb_ext h h2 → xb_k h2 x3 = 103 ∧ vp_in 0 (xb_n h2 x3) ∧ ∀ h6 : xb_H, h6 = xb_L h2 x3 (Int32.toNatClampNeg 0) (Int32.toInt64 r3) → Qr 0 h6 bc3 bs3) (fun (XX : String) (h2 : xb_H) (bc3 bs3 : Nat) => xb_ext h h2 → ∀ ax : Nat, (XX = "java/lang/IllegalStateException" ∧ Qr 1 h2 bc3 bs3))


def w_M_checkExports_L120 (Qr : xb_H → Prop) (h : xb_H) : Prop :=
    Qr h

def w_M_checkExports_L114 (K2 : Nat → Int32 → Int32 → xb_H → Prop) (Qr : xb_H → Prop) (x0 : Nat) (x1 : Int32) (x2 : Int32) (h : xb_H) : Prop :=
    K2 x0 x1 (x2 + 1) h

def w_M_checkExports_L108 (K2 : Nat → Int32 → Int32 → xb_H → Prop) (K70 : Nat → Int32 → Int32 → Int32 → Int32 → xb_H → Prop) (Qr : xb_H → Prop) (x0 : Nat) (x1 : Int32) (x2 : Int32) (x3 : Int32) (x5 : Int32) (h : xb_H) : Prop :=
    K70 x0 x1 x2 x3 (x5 + 1) h

def w_M_checkExports_L70 (K2 : Nat → Int32 → Int32 → xb_H → Prop) (Qr : xb_H → Prop) : Nat → Nat → Int32 → Int32 → Int32 → Int32 → xb_H → Prop
  | 0, _, _, _, _, _, _ => False
  | n9 + 1, x0, x1, x2, x3, x5, h =>
    ((x2 ≤ x5 → w_M_checkExports_L114 K2 Qr x0 x1 x2 h) ∧ (¬ x2 ≤ x5 → xb_k h x0 = 9 ∧ ((¬ (xb_i h x0 17) = (0 : Int32) → w_M_checkExports_L114 K2 Qr x0 x1 x2 h) ∧ ((xb_i h x0 17) = (0 : Int32) → w_M_placeOf x0 x1 7 x5 h (fun (r5 : Int32) (h4 : xb_H) => xb_ext h h4 → w_M_sameName x0 x1 r5 x3 h4 (fun (r7 : Int32) (h6 : xb_H) => xb_ext h4 h6 → ((r7 = (0 : Int32) → w_M_checkExports_L108 K2 (w_M_checkExports_L70 K2 Qr n9) Qr x0 x1 x2 x3 x5 h6) ∧ (¬ r7 = (0 : Int32) → w_M_fail x0 24 x3 h6 (fun (h9 : xb_H) => xb_ext h6 h9 → w_M_checkExports_L108 K2 (w_M_checkExports_L70 K2 Qr n9) Qr x0 x1 x2 x3 x5 h9)))))))))

def w_M_checkExports_L67 (K2 : Nat → Int32 → Int32 → xb_H → Prop) (Qr : xb_H → Prop) (x0 : Nat) (x1 : Int32) (x2 : Int32) (x3 : Int32) (h : xb_H) : Prop :=
    (∃ n8 : Nat, w_M_checkExports_L70 K2 Qr n8 x0 x1 x2 x3 0 h)

def w_M_checkExports_L2 (Qr : xb_H → Prop) : Nat → Nat → Int32 → Int32 → xb_H → Prop
  | 0, _, _, _, _ => False
  | n9 + 1, x0, x1, x2, h =>
    xb_k h x0 = 9 ∧ w_M_manyOf x0 x1 7 h (fun (r3 : Int32) (h2 : xb_H) => xb_ext h h2 → ((r3 ≤ x2 → w_M_checkExports_L120 Qr h2) ∧ (¬ r3 ≤ x2 → ((¬ (xb_i h2 x0 17) = (0 : Int32) → w_M_checkExports_L120 Qr h2) ∧ ((xb_i h2 x0 17) = (0 : Int32) → w_M_placeOf x0 x1 7 x2 h2 (fun (r7 : Int32) (h6 : xb_H) => xb_ext h2 h6 → w_M_go x0 x1 r7 h6 (fun (h8 : xb_H) => xb_ext h6 h8 → w_M_name0 x0 h8 (fun (h10 : xb_H) => xb_ext h8 h10 → w_M_next x0 h10 (fun (r13 : Int32) (h12 : xb_H) => xb_ext h10 h12 → w_M_count x0 h12 (fun (r15 : Int64) (h14 : xb_H) => xb_ext h12 h14 → w_M_total x0 x1 r13 h14 (fun (r17 : Int64) (h16 : xb_H) => xb_ext h14 h16 → ((r15 < r17 → w_M_checkExports_L67 (w_M_checkExports_L2 Qr n9) Qr x0 x1 x2 r7 h16) ∧ (¬ r15 < r17 → w_M_fail x0 20 r7 h16 (fun (h19 : xb_H) => xb_ext h16 h19 → w_M_checkExports_L67 (w_M_checkExports_L2 Qr n9) Qr x0 x1 x2 r7 h19))))))))))))))

def w_M_checkExports (x0 : Nat) (x1 : Int32) (h : xb_H) (Qr : xb_H → Prop) : Prop :=
    (∃ n8 : Nat, w_M_checkExports_L2 Qr n8 x0 x1 0 h)


def w_M_checkFlow_L288 (Qr : xb_H → Prop) (h : xb_H) : Prop :=
    Qr h

def w_M_checkFlow_L199 (Qr : xb_H → Prop) (x0 : Nat) (x5 : Int32) (y0 : Int32) (y1 : Nat) (h : xb_H) : Prop :=
    xb_k h y1 = 9 ∧ w_M_need y1 y0 21 h (fun (h2 : xb_H) => xb_ext h h2 → xb_k h2 x0 = 9 ∧ w_M_putResult x0 x5 h2 (fun (h5 : xb_H) => xb_ext h2 h5 → w_M_checkFlow_L288 Qr h5))

def w_M_checkFlow_L194 (Qr : xb_H → Prop) (x0 : Nat) (x5 : Int32) (y0 : Nat) (h : xb_H) : Prop :=
    w_M_checkFlow_L199 Qr x0 x5 1 y0 h

def w_M_checkFlow_L117 (Qr : xb_H → Prop) (x2 : Int32) (y0 : Int32) (y1 : Int32) (y2 : Nat) (h : xb_H) : Prop :=
    xb_k h y2 = 9 ∧ w_M_begin y2 y1 y0 x2 h (fun (h2 : xb_H) => xb_ext h h2 → w_M_checkFlow_L288 Qr h2)

def w_M_checkFlow_L99 (Qr : xb_H → Prop) (x0 : Nat) (x1 : Int32) (h : xb_H) : Prop :=
    xb_k h x0 = 9 ∧ w_M_next x0 h (fun (r3 : Int32) (h2 : xb_H) => xb_ext h h2 → ((¬ x1 = (3 : Int32) → w_M_checkFlow_L117 Qr r3 r3 x1 x0 h2) ∧ (x1 = (3 : Int32) → w_M_checkFlow_L117 Qr r3 64 x1 x0 h2)))

def w_M_checkFlow_L87 (Qr : xb_H → Prop) (x0 : Nat) (x1 : Int32) (h : xb_H) : Prop :=
    ((¬ x1 = (4 : Int32) → w_M_checkFlow_L99 Qr x0 x1 h) ∧ (x1 = (4 : Int32) → xb_k h x0 = 9 ∧ w_M_take x0 127 h (fun (r4 : Int32) (h3 : xb_H) => xb_ext h h3 → w_M_checkFlow_L99 Qr x0 x1 h3)))

def w_M_checkFlow (x0 : Nat) (x1 : Int32) (h : xb_H) (Qr : xb_H → Prop) : Prop :=
    ((x1 = 0 → xb_k h x0 = 9 ∧ w_M_dead x0 h (fun (h3 : xb_H) => xb_ext h h3 → w_M_checkFlow_L288 Qr h3)) ∧ (x1 = 1 → w_M_checkFlow_L288 Qr h) ∧ (x1 = 2 → w_M_checkFlow_L87 Qr x0 x1 h) ∧ (x1 = 3 → w_M_checkFlow_L87 Qr x0 x1 h) ∧ (x1 = 4 → w_M_checkFlow_L87 Qr x0 x1 h) ∧ (x1 = 5 → xb_k h x0 = 9 ∧ ∃ b11 : Nat, (xb_r h x0 26) = some b11 ∧ xb_k h b11 = 102 ∧ vp_in ((xb_i h x0 29) - 1) (xb_n h b11) ∧ ∀ v14 : Int32, v14 = (xb_i h b11 (Int32.toNatClampNeg ((xb_i h x0 29) - 1))) → w_M_closeOne x0 h (fun (h15 : xb_H) => xb_ext h h15 → w_M_begin x0 5 v14 v14 h15 (fun (h17 : xb_H) => xb_ext h15 h17 → w_M_checkFlow_L288 Qr h17))) ∧ (x1 = 6 → w_M_checkFlow_L288 Qr h) ∧ (x1 = 7 → w_M_checkFlow_L288 Qr h) ∧ (x1 = 8 → w_M_checkFlow_L288 Qr h) ∧ (x1 = 9 → w_M_checkFlow_L288 Qr h) ∧ (x1 = 10 → w_M_checkFlow_L288 Qr h) ∧ (x1 = 11 → xb_k h x0 = 9 ∧ ∃ b26 : Nat, (xb_r h x0 24) = some b26 ∧ xb_k h b26 = 102 ∧ vp_in ((xb_i h x0 29) - 1) (xb_n h b26) ∧ ∀ v29 : Int32, v29 = (xb_i h b26 (Int32.toNatClampNeg ((xb_i h x0 29) - 1))) → ∃ b30 : Nat, (xb_r h x0 26) = some b30 ∧ xb_k h b30 = 102 ∧ vp_in ((xb_i h x0 29) - 1) (xb_n h b30) ∧ ∀ v33 : Int32, v33 = (xb_i h b30 (Int32.toNatClampNeg ((xb_i h x0 29) - 1))) → w_M_closeOne x0 h (fun (h34 : xb_H) => xb_ext h h34 → ((¬ v29 = (4 : Int32) → w_M_checkFlow_L194 Qr x0 v33 x0 h34) ∧ (v29 = (4 : Int32) → ((¬ v33 = (64 : Int32) → w_M_checkFlow_L199 Qr x0 v33 0 x0 h34) ∧ (v33 = (64 : Int32) → w_M_checkFlow_L194 Qr x0 v33 x0 h34)))))) ∧ (x1 = 12 → xb_k h x0 = 9 ∧ w_M_count x0 h (fun (r41 : Int64) (h40 : xb_H) => xb_ext h h40 → w_M_label x0 r41 h40 (fun (r43 : Int32) (h42 : xb_H) => xb_ext h40 h42 → w_M_takeResult x0 r43 h42 (fun (h44 : xb_H) => xb_ext h42 h44 → w_M_dead x0 h44 (fun (h46 : xb_H) => xb_ext h44 h46 → w_M_checkFlow_L288 Qr h46))))) ∧ (x1 = 13 → xb_k h x0 = 9 ∧ w_M_count x0 h (fun (r51 : Int64) (h50 : xb_H) => xb_ext h h50 → w_M_label x0 r51 h50 (fun (r53 : Int32) (h52 : xb_H) => xb_ext h50 h52 → w_M_take x0 127 h52 (fun (r55 : Int32) (h54 : xb_H) => xb_ext h52 h54 → w_M_takeResult x0 r53 h54 (fun (h56 : xb_H) => xb_ext h54 h56 → w_M_putResult x0 r53 h56 (fun (h58 : xb_H) => xb_ext h56 h58 → w_M_checkFlow_L288 Qr h58)))))) ∧ (x1 = 14 → xb_k h x0 = 9 ∧ w_M_checkTable x0 h (fun (h62 : xb_H) => xb_ext h h62 → w_M_checkFlow_L288 Qr h62)) ∧ (x1 = 15 → xb_k h x0 = 9 ∧ ∃ b66 : Nat, (xb_r h x0 25) = some b66 ∧ xb_k h b66 = 102 ∧ vp_in 0 (xb_n h b66) ∧ w_M_takeResult x0 (xb_i h b66 0) h (fun (h69 : xb_H) => xb_ext h h69 → w_M_dead x0 h69 (fun (h71 : xb_H) => xb_ext h69 h71 → w_M_checkFlow_L288 Qr h71))) ∧ (¬ x1 = 0 → ¬ x1 = 1 → ¬ x1 = 2 → ¬ x1 = 3 → ¬ x1 = 4 → ¬ x1 = 5 → ¬ x1 = 6 → ¬ x1 = 7 → ¬ x1 = 8 → ¬ x1 = 9 → ¬ x1 = 10 → ¬ x1 = 11 → ¬ x1 = 12 → ¬ x1 = 13 → ¬ x1 = 14 → ¬ x1 = 15 → w_M_checkFlow_L288 Qr h))


def w_M_exportKind (x0 : Nat) (x1 : Int32) (x2 : Int32) (h : xb_H) (Qr : Int32 → xb_H → Prop) : Prop :=
    xb_k h x0 = 9 ∧ w_M_placeOf x0 x1 7 x2 h (fun (r3 : Int32) (h2 : xb_H) => xb_ext h h2 → w_M_go x0 x1 r3 h2 (fun (h4 : xb_H) => xb_ext h2 h4 → w_M_name0 x0 h4 (fun (h6 : xb_H) => xb_ext h4 h6 → w_M_next x0 h6 (fun (r9 : Int32) (h8 : xb_H) => xb_ext h6 h8 → Qr r9 h8))))


def w_M_exportNamed_L11 (Qr : Int32 → xb_H → Prop) : Nat → Nat → Int32 → Int32 → Int32 → Int32 → xb_H → Prop
  | 0, _, _, _, _, _, _ => False
  | n9 + 1, x0, x2, x3, x4, x5, h =>
    xb_k h x0 = 9 ∧ w_M_manyOf x0 x4 7 h (fun (r3 : Int32) (h2 : xb_H) => xb_ext h h2 → ((r3 ≤ x5 → Qr (-1) h2) ∧ (¬ r3 ≤ x5 → w_M_placeOf x0 x4 7 x5 h2 (fun (r6 : Int32) (h5 : xb_H) => xb_ext h2 h5 → w_M_isNamed x0 x4 r6 x2 x3 h5 (fun (r8 : Int32) (h7 : xb_H) => xb_ext h5 h7 → ((r8 = (0 : Int32) → w_M_exportNamed_L11 Qr n9 x0 x2 x3 x4 (x5 + 1) h7) ∧ (¬ r8 = (0 : Int32) → Qr x5 h7)))))))

def w_M_exportNamed (x0 : Nat) (x1 : Int32) (x2 : Int32) (x3 : Int32) (h : xb_H) (Qr : Int32 → xb_H → Prop) : Prop :=
    xb_k h x0 = 9 ∧ ∃ b2 : Nat, (xb_r h x0 31) = some b2 ∧ xb_k h b2 = 102 ∧ vp_in x1 (xb_n h b2) ∧ ∀ v5 : Int32, v5 = (xb_i h b2 (Int32.toNatClampNeg x1)) → (∃ n8 : Nat, w_M_exportNamed_L11 Qr n8 x0 x2 x3 v5 0 h)


def w_M_importAt (x0 : Nat) (x1 : Int32) (x2 : Int32) (h : xb_H) (Qr : Int32 → xb_H → Prop) : Prop :=
    xb_k h x0 = 9 ∧ w_M_placeOf x0 x1 2 x2 h (fun (r3 : Int32) (h2 : xb_H) => xb_ext h h2 → w_M_go x0 x1 r3 h2 (fun (h4 : xb_H) => xb_ext h2 h4 → w_M_name0 x0 h4 (fun (h6 : xb_H) => xb_ext h4 h6 → w_M_name0 x0 h6 (fun (h8 : xb_H) => xb_ext h6 h8 → w_M_next x0 h8 (fun (r11 : Int32) (h10 : xb_H) => xb_ext h8 h10 → Qr r11 h10)))))


def w_M_limitsFault_L82 (Qr : xb_H → Prop) (h : xb_H) : Prop :=
    Qr h

def w_M_limitsFault_L54 (Qr : xb_H → Prop) (x0 : Nat) (x2 : Int32) (x3 : Int32) (y0 : Int32) (h : xb_H) : Prop :=
    ((y0 = (0 : Int32) → ((x3 = (0 : Int32) → w_M_limitsFault_L82 Qr h) ∧ (¬ x3 = (0 : Int32) → xb_k h x0 = 9 ∧ w_M_fail x0 27 x2 h (fun (h4 : xb_H) => xb_ext h h4 → w_M_limitsFault_L82 Qr h4)))) ∧ (¬ y0 = (0 : Int32) → xb_k h x0 = 9 ∧ w_M_fail x0 25 x2 h (fun (h7 : xb_H) => xb_ext h h7 → w_M_limitsFault_L82 Qr h7)))

def w_M_limitsFault_L53 (Qr : xb_H → Prop) (x0 : Nat) (x2 : Int32) (x3 : Int32) (h : xb_H) : Prop :=
    w_M_limitsFault_L54 Qr x0 x2 x3 0 h

def w_M_limitsFault_L49 (Qr : xb_H → Prop) (x0 : Nat) (x2 : Int32) (x3 : Int32) (h : xb_H) : Prop :=
    w_M_limitsFault_L54 Qr x0 x2 x3 1 h

def w_M_limitsFault_L25 (Qr : xb_H → Prop) (x0 : Nat) (x1 : Int32) (x2 : Int32) (x3 : Int32) (x4 : Int64) (h : xb_H) : Prop :=
    ((x1 = (0 : Int32) → w_M_limitsFault_L53 Qr x0 x2 x3 h) ∧ (¬ x1 = (0 : Int32) → (((65536 : Int64) < x4 → w_M_limitsFault_L49 Qr x0 x2 x3 h) ∧ (¬ (65536 : Int64) < x4 → xb_k h x0 = 9 ∧ (((xb_l h x0 91) ≤ (65536 : Int64) → w_M_limitsFault_L53 Qr x0 x2 x3 h) ∧ (¬ (xb_l h x0 91) ≤ (65536 : Int64) → w_M_limitsFault_L49 Qr x0 x2 x3 h))))))

def w_M_limitsFault (x0 : Nat) (x1 : Int32) (x2 : Int32) (x3 : Int32) (h : xb_H) (Qr : xb_H → Prop) : Prop :=
    xb_k h x0 = 9 ∧ w_M_leastRead x0 h (fun (r3 : Int64) (h2 : xb_H) => xb_ext h h2 → (((xb_l h2 x0 91) < (0 : Int64) → w_M_limitsFault_L25 Qr x0 x1 x2 x3 r3 h2) ∧ (¬ (xb_l h2 x0 91) < (0 : Int64) → (((xb_l h2 x0 91) < r3 → w_M_limitsFault_L49 Qr x0 x2 x3 h2) ∧ (¬ (xb_l h2 x0 91) < r3 → w_M_limitsFault_L25 Qr x0 x1 x2 x3 r3 h2)))))


def w_M_ownLeast_L37 (Qr : Int64 → xb_H → Prop) (x0 : Nat) (y0 : Int32) (y1 : Int32) (y2 : Int32) (y3 : Nat) (h : xb_H) : Prop :=
    xb_k h y3 = 9 ∧ w_M_go y3 y2 (y1 + y0) h (fun (h2 : xb_H) => xb_ext h h2 → xb_k h2 x0 = 9 ∧ w_M_leastRead x0 h2 (fun (r6 : Int64) (h5 : xb_H) => xb_ext h2 h5 → Qr r6 h5))

def w_M_ownLeast (x0 : Nat) (x1 : Int32) (x2 : Int32) (h : xb_H) (Qr : Int64 → xb_H → Prop) : Prop :=
    xb_k h x0 = 9 ∧ w_M_manyOf x0 x1 x2 h (fun (r3 : Int32) (h2 : xb_H) => xb_ext h h2 → ((¬ r3 = (0 : Int32) → w_M_placeOf x0 x1 x2 0 h2 (fun (r6 : Int32) (h5 : xb_H) => xb_ext h2 h5 → ((¬ x2 = (4 : Int32) → w_M_ownLeast_L37 Qr x0 0 r6 x1 x0 h5) ∧ (x2 = (4 : Int32) → w_M_ownLeast_L37 Qr x0 1 r6 x1 x0 h5)))) ∧ (r3 = (0 : Int32) → ∀ h8 : xb_H, h8 = xb_L h2 x0 91 (-1) → Qr 0 h8)))


def w_M_parameter_L34 (Qr : Int32 → xb_H → Prop) (y0 : Int32) (h : xb_H) : Prop :=
    Qr y0 h

def w_M_parameter (x0 : Nat) (x1 : Int32) (x2 : Int32) (x3 : Int32) (h : xb_H) (Qr : Int32 → xb_H → Prop) : Prop :=
    xb_k h x0 = 9 ∧ w_M_parameters x0 x1 x2 h (fun (r3 : Int32) (h2 : xb_H) => xb_ext h h2 → ((r3 ≤ x3 → w_M_parameter_L34 Qr 64 h2) ∧ (¬ r3 ≤ x3 → ∃ b5 : Nat, (xb_r h2 x0 3) = some b5 ∧ xb_k h2 b5 = 100 ∧ vp_in ((xb_i h2 x0 15) + x3) (xb_n h2 b5) ∧ w_M_parameter_L34 Qr ((xb_i h2 b5 (Int32.toNatClampNeg ((xb_i h2 x0 15) + x3))) &&& 255) h2)))


def w_M_resultOf_L44 (Qr : Int32 → xb_H → Prop) (y0 : Int32) (h : xb_H) : Prop :=
    Qr y0 h

def w_M_resultOf (x0 : Nat) (x1 : Int32) (x2 : Int32) (h : xb_H) (Qr : Int32 → xb_H → Prop) : Prop :=
    xb_k h x0 = 9 ∧ w_M_parameters x0 x1 x2 h (fun (r3 : Int32) (h2 : xb_H) => xb_ext h h2 → ∀ h4 : xb_H, h4 = xb_I h2 x0 15 ((xb_i h2 x0 15) + r3) → w_M_count x0 h4 (fun (r6 : Int64) (h5 : xb_H) => xb_ext h4 h5 → ((¬ r6 = (0 : Int64) → ∃ b8 : Nat, (xb_r h5 x0 3) = some b8 ∧ xb_k h5 b8 = 100 ∧ vp_in (xb_i h5 x0 15) (xb_n h5 b8) ∧ w_M_resultOf_L44 Qr ((xb_i h5 b8 (Int32.toNatClampNeg (xb_i h5 x0 15))) &&& 255) h5) ∧ (r6 = (0 : Int64) → w_M_resultOf_L44 Qr 64 h5))))


def w_M_tableType (x0 : Nat) (h : xb_H) (Qr : xb_H → Prop) : Prop :=
    xb_k h x0 = 9 ∧ w_M_wanted x0 112 112 h (fun (h2 : xb_H) => xb_ext h h2 → w_M_limits x0 h2 (fun (h4 : xb_H) => xb_ext h2 h4 → Qr h4))


def w_M_written_L301 (Qr : xb_H → Prop) (h : xb_H) : Prop :=
    Qr h

def w_M_written_L295 (Qr : xb_H → Prop) (x0 : Nat) (x2 : Int32) (h : xb_H) : Prop :=
    xb_k h x0 = 9 ∧ w_M_fail x0 5 x2 h (fun (h2 : xb_H) => xb_ext h h2 → w_M_written_L301 Qr h2)

def w_M_written_L238 (Qr : xb_H → Prop) (y0 : Int64) (y1 : Nat) (h : xb_H) : Prop :=
    xb_k h y1 = 9 ∧ w_M_skip y1 y0 h (fun (h2 : xb_H) => xb_ext h h2 → w_M_written_L301 Qr h2)

def w_M_written_L222 (Qr : xb_H → Prop) (x0 : Nat) (x1 : Int32) (h : xb_H) : Prop :=
    ((¬ x1 = (67 : Int32) → w_M_written_L238 Qr 8 x0 h) ∧ (x1 = (67 : Int32) → w_M_written_L238 Qr 4 x0 h))

def w_M_written_L203 (Qr : xb_H → Prop) (y0 : Int32) (y1 : Nat) (h : xb_H) : Prop :=
    xb_k h y1 = 9 ∧ w_M_signed y1 y0 h (fun (r3 : Int64) (h2 : xb_H) => xb_ext h h2 → w_M_written_L301 Qr h2)

def w_M_written_L189 (Qr : xb_H → Prop) (x0 : Nat) (x1 : Int32) (h : xb_H) : Prop :=
    ((¬ x1 = (65 : Int32) → w_M_written_L203 Qr 64 x0 h) ∧ (x1 = (65 : Int32) → w_M_written_L203 Qr 32 x0 h))

def w_M_written_L168 (Qr : xb_H → Prop) (x0 : Nat) (h : xb_H) : Prop :=
    xb_k h x0 = 9 ∧ w_M_wanted x0 0 0 h (fun (h2 : xb_H) => xb_ext h h2 → w_M_written_L301 Qr h2)

def w_M_written_L156 (Qr : xb_H → Prop) (x0 : Nat) (x1 : Int32) (x2 : Int32) (h : xb_H) : Prop :=
    ((x1 = (63 : Int32) → w_M_written_L168 Qr x0 h) ∧ (¬ x1 = (63 : Int32) → ((¬ x1 = (64 : Int32) → ((x1 = (65 : Int32) → w_M_written_L189 Qr x0 x1 h) ∧ (¬ x1 = (65 : Int32) → ((¬ x1 = (66 : Int32) → ((x1 = (67 : Int32) → w_M_written_L222 Qr x0 x1 h) ∧ (¬ x1 = (67 : Int32) → ((¬ x1 = (68 : Int32) → ((x1 = (0 : Int32) → w_M_written_L301 Qr h) ∧ (¬ x1 = (0 : Int32) → ((x1 = (1 : Int32) → w_M_written_L301 Qr h) ∧ (¬ x1 = (1 : Int32) → ((x1 = (5 : Int32) → w_M_written_L301 Qr h) ∧ (¬ x1 = (5 : Int32) → ((x1 = (11 : Int32) → w_M_written_L301 Qr h) ∧ (¬ x1 = (11 : Int32) → ((x1 = (15 : Int32) → w_M_written_L301 Qr h) ∧ (¬ x1 = (15 : Int32) → ((x1 = (26 : Int32) → w_M_written_L301 Qr h) ∧ (¬ x1 = (26 : Int32) → ((x1 = (27 : Int32) → w_M_written_L301 Qr h) ∧ (¬ x1 = (27 : Int32) → ((x1 < (69 : Int32) → w_M_written_L295 Qr x0 x2 h) ∧ (¬ x1 < (69 : Int32) → ((x1 ≤ (191 : Int32) → w_M_written_L301 Qr h) ∧ (¬ x1 ≤ (191 : Int32) → w_M_written_L295 Qr x0 x2 h))))))))))))))))))) ∧ (x1 = (68 : Int32) → w_M_written_L222 Qr x0 x1 h))))) ∧ (x1 = (66 : Int32) → w_M_written_L189 Qr x0 x1 h))))) ∧ (x1 = (64 : Int32) → w_M_written_L168 Qr x0 h))))

def w_M_written_L92 (Qr : xb_H → Prop) (x0 : Nat) (x1 : Int32) (x2 : Int32) (h : xb_H) : Prop :=
    ((¬ x1 = (14 : Int32) → ((¬ x1 = (17 : Int32) → ((x1 < (40 : Int32) → w_M_written_L156 Qr x0 x1 x2 h) ∧ (¬ x1 < (40 : Int32) → (((62 : Int32) < x1 → w_M_written_L156 Qr x0 x1 x2 h) ∧ (¬ (62 : Int32) < x1 → xb_k h x0 = 9 ∧ w_M_count x0 h (fun (r7 : Int64) (h6 : xb_H) => xb_ext h h6 → w_M_count x0 h6 (fun (r9 : Int64) (h8 : xb_H) => xb_ext h6 h8 → w_M_written_L301 Qr h8))))))) ∧ (x1 = (17 : Int32) → xb_k h x0 = 9 ∧ w_M_count x0 h (fun (r12 : Int64) (h11 : xb_H) => xb_ext h h11 → w_M_wanted x0 0 0 h11 (fun (h13 : xb_H) => xb_ext h11 h13 → w_M_written_L301 Qr h13))))) ∧ (x1 = (14 : Int32) → xb_k h x0 = 9 ∧ w_M_row x0 0 h (fun (h16 : xb_H) => xb_ext h h16 → w_M_count x0 h16 (fun (r19 : Int64) (h18 : xb_H) => xb_ext h16 h18 → w_M_written_L301 Qr h18))))

def w_M_written_L84 (Qr : xb_H → Prop) (x0 : Nat) (h : xb_H) : Prop :=
    xb_k h x0 = 9 ∧ w_M_count x0 h (fun (r3 : Int64) (h2 : xb_H) => xb_ext h h2 → w_M_written_L301 Qr h2)

def w_M_written_L51 (Qr : xb_H → Prop) (h : xb_H) : Prop :=
    w_M_written_L301 Qr h

def w_M_written_L15 (Qr : xb_H → Prop) (x0 : Nat) (h : xb_H) : Prop :=
    xb_k h x0 = 9 ∧ w_M_next x0 h (fun (r3 : Int32) (h2 : xb_H) => xb_ext h h2 → ((¬ (xb_i h2 x0 17) = (0 : Int32) → w_M_written_L51 Qr h2) ∧ ((xb_i h2 x0 17) = (0 : Int32) → ((r3 = (64 : Int32) → w_M_written_L51 Qr h2) ∧ (¬ r3 = (64 : Int32) → w_M_isType r3 h2 (fun (r7 : Int32) (h6 : xb_H) => xb_ext h2 h6 → ((¬ r7 = (0 : Int32) → w_M_written_L51 Qr h6) ∧ (r7 = (0 : Int32) → w_M_fail x0 5 ((xb_i h6 x0 15) - 1) h6 (fun (h9 : xb_H) => xb_ext h6 h9 → w_M_written_L51 Qr h9)))))))))

def w_M_written (x0 : Nat) (x1 : Int32) (x2 : Int32) (h : xb_H) (Qr : xb_H → Prop) : Prop :=
    ((x1 = (2 : Int32) → w_M_written_L15 Qr x0 h) ∧ (¬ x1 = (2 : Int32) → ((x1 = (3 : Int32) → w_M_written_L15 Qr x0 h) ∧ (¬ x1 = (3 : Int32) → ((¬ x1 = (4 : Int32) → ((x1 = (12 : Int32) → w_M_written_L84 Qr x0 h) ∧ (¬ x1 = (12 : Int32) → ((x1 = (13 : Int32) → w_M_written_L84 Qr x0 h) ∧ (¬ x1 = (13 : Int32) → ((x1 = (16 : Int32) → w_M_written_L84 Qr x0 h) ∧ (¬ x1 = (16 : Int32) → ((x1 < (32 : Int32) → w_M_written_L92 Qr x0 x1 x2 h) ∧ (¬ x1 < (32 : Int32) → (((36 : Int32) < x1 → w_M_written_L92 Qr x0 x1 x2 h) ∧ (¬ (36 : Int32) < x1 → w_M_written_L84 Qr x0 h))))))))))) ∧ (x1 = (4 : Int32) → w_M_written_L15 Qr x0 h))))))


def w_Exact_floated_L236 (Qr : Int64 → xb_H → Prop) (x2 : Int64) (x4 : Int64) (y0 : Int32) (y1 : Nat) (h : xb_H) : Prop :=
    xb_k h y1 = 10 ∧ w_Exact_lesser y1 y0 x2 x4 h (fun (r3 : Int64) (h2 : xb_H) => xb_ext h h2 → Qr r3 h2)

def w_Exact_floated_L97 (Qr : Int64 → xb_H → Prop) (x0 : Nat) (x1 : Int32) (x2 : Int64) (x4 : Int64) (h : xb_H) : Prop :=
    ((x1 = 2 → xb_k h x0 = 10 ∧ w_Exact_whole x0 3 x2 h (fun (r4 : Int64) (h3 : xb_H) => xb_ext h h3 → Qr r4 h3)) ∧ (x1 = 3 → xb_k h x0 = 10 ∧ w_Exact_whole x0 4 x2 h (fun (r8 : Int64) (h7 : xb_H) => xb_ext h h7 → Qr r8 h7)) ∧ (x1 = 4 → xb_k h x0 = 10 ∧ w_Exact_whole x0 5 x2 h (fun (r12 : Int64) (h11 : xb_H) => xb_ext h h11 → Qr r12 h11)) ∧ (x1 = 5 → xb_k h x0 = 10 ∧ w_Exact_whole x0 6 x2 h (fun (r16 : Int64) (h15 : xb_H) => xb_ext h h15 → Qr r16 h15)) ∧ (x1 = 6 → xb_k h x0 = 10 ∧ w_Exact_root x0 x2 h (fun (r20 : Int64) (h19 : xb_H) => xb_ext h h19 → Qr r20 h19)) ∧ (x1 = 7 → xb_k h x0 = 10 ∧ w_Exact_sum x0 x2 x4 h (fun (r24 : Int64) (h23 : xb_H) => xb_ext h h23 → Qr r24 h23)) ∧ (x1 = 8 → xb_k h x0 = 10 ∧ w_Exact_sum x0 x2 (x4 ^^^ (xb_lshl 1 ((xb_i h x0 5) - 1))) h (fun (r28 : Int64) (h27 : xb_H) => xb_ext h h27 → Qr r28 h27)) ∧ (x1 = 9 → xb_k h x0 = 10 ∧ w_Exact_product x0 x2 x4 h (fun (r32 : Int64) (h31 : xb_H) => xb_ext h h31 → Qr r32 h31)) ∧ (x1 = 10 → xb_k h x0 = 10 ∧ w_Exact_quotient x0 x2 x4 h (fun (r36 : Int64) (h35 : xb_H) => xb_ext h h35 → Qr r36 h35)) ∧ (¬ x1 = 2 → ¬ x1 = 3 → ¬ x1 = 4 → ¬ x1 = 5 → ¬ x1 = 6 → ¬ x1 = 7 → ¬ x1 = 8 → ¬ x1 = 9 → ¬ x1 = 10 → ((¬ x1 = (12 : Int32) → w_Exact_floated_L236 Qr x2 x4 0 x0 h) ∧ (x1 = (12 : Int32) → w_Exact_floated_L236 Qr x2 x4 1 x0 h))))

def w_Exact_floated_L92 (Qr : Int64 → xb_H → Prop) (x0 : Nat) (h : xb_H) : Prop :=
    xb_k h x0 = 10 ∧ w_Exact_noNumber x0 h (fun (r3 : Int64) (h2 : xb_H) => xb_ext h h2 → Qr r3 h2)

def w_Exact_floated (x0 : Nat) (x1 : Int32) (x2 : Int64) (x4 : Int64) (h : xb_H) (Qr : Int64 → xb_H → Prop) : Prop :=
    ((x1 = 0 → xb_k h x0 = 10 ∧ w_Exact_size x0 x2 h (fun (r4 : Int64) (h3 : xb_H) => xb_ext h h3 → Qr r4 h3)) ∧ (x1 = 1 → xb_k h x0 = 10 ∧ Qr (x2 ^^^ (xb_lshl 1 ((xb_i h x0 5) - 1))) h) ∧ (x1 = 13 → xb_k h x0 = 10 ∧ w_Exact_size x0 x2 h (fun (r10 : Int64) (h9 : xb_H) => xb_ext h h9 → w_Exact_isMinus x0 x4 h9 (fun (r12 : Int32) (h11 : xb_H) => xb_ext h9 h11 → w_Exact_signed x0 r10 r12 h11 (fun (r14 : Int64) (h13 : xb_H) => xb_ext h11 h13 → Qr r14 h13)))) ∧ (¬ x1 = 0 → ¬ x1 = 1 → ¬ x1 = 13 → xb_k h x0 = 10 ∧ w_Exact_isNone x0 x2 h (fun (r17 : Int32) (h16 : xb_H) => xb_ext h h16 → ((¬ r17 = (0 : Int32) → w_Exact_floated_L92 Qr x0 h16) ∧ (r17 = (0 : Int32) → ((x1 ≤ (6 : Int32) → w_Exact_floated_L97 Qr x0 x1 x2 x4 h16) ∧ (¬ x1 ≤ (6 : Int32) → w_Exact_isNone x0 x4 h16 (fun (r21 : Int32) (h20 : xb_H) => xb_ext h16 h20 → ((r21 = (0 : Int32) → w_Exact_floated_L97 Qr x0 x1 x2 x4 h20) ∧ (¬ r21 = (0 : Int32) → w_Exact_floated_L92 Qr x0 h20))))))))))


def w_Exact_turnedInto_L287 (Qr : Int64 → xb_H → Prop) (x2 : Int64) (h : xb_H) : Prop :=
    Qr x2 h

def w_Exact_turnedInto_L283 (Qr : Int64 → xb_H → Prop) (y0 : Int32) (y1 : Int64) (y2 : Nat) (h : xb_H) : Prop :=
    xb_k h y2 = 10 ∧ w_Exact_reformed y2 y1 y0 h (fun (r3 : Int64) (h2 : xb_H) => xb_ext h h2 → Qr r3 h2)

def w_Exact_turnedInto_L264 (Qr : Int64 → xb_H → Prop) (x0 : Nat) (x1 : Int32) (x2 : Int64) (y0 : Int32) (y1 : Nat) (h : xb_H) : Prop :=
    xb_k h y1 = 10 ∧ w_Exact_format y1 y0 h (fun (h2 : xb_H) => xb_ext h h2 → ((¬ x1 = (182 : Int32) → w_Exact_turnedInto_L283 Qr 64 x2 x0 h2) ∧ (x1 = (182 : Int32) → w_Exact_turnedInto_L283 Qr 32 x2 x0 h2)))

def w_Exact_turnedInto_L249 (Qr : Int64 → xb_H → Prop) (x0 : Nat) (x1 : Int32) (x2 : Int64) (h : xb_H) : Prop :=
    ((¬ x1 = (182 : Int32) → w_Exact_turnedInto_L264 Qr x0 x1 x2 32 x0 h) ∧ (x1 = (182 : Int32) → w_Exact_turnedInto_L264 Qr x0 x1 x2 64 x0 h))

def w_Exact_turnedInto_L245 (Qr : Int64 → xb_H → Prop) (y0 : Int32) (y1 : Int64) (y2 : Nat) (h : xb_H) : Prop :=
    xb_k h y2 = 10 ∧ w_Exact_floating y2 y1 y0 h (fun (r3 : Int64) (h2 : xb_H) => xb_ext h h2 → Qr r3 h2)

def w_Exact_turnedInto_L235 (Qr : Int64 → xb_H → Prop) (x4 : Int32) (y0 : Int64) (y1 : Nat) (h : xb_H) : Prop :=
    ((¬ x4 = (0 : Int32) → w_Exact_turnedInto_L245 Qr 0 y0 y1 h) ∧ (x4 = (0 : Int32) → w_Exact_turnedInto_L245 Qr 1 y0 y1 h))

def w_Exact_turnedInto_L211 (Qr : Int64 → xb_H → Prop) (x0 : Nat) (x1 : Int32) (x2 : Int64) (x4 : Int32) (h : xb_H) : Prop :=
    xb_k h x0 = 10 ∧ w_Exact_format x0 64 h (fun (h2 : xb_H) => xb_ext h h2 → ((¬ x1 = (183 : Int32) → w_Exact_turnedInto_L235 Qr x4 x2 x0 h2) ∧ (x1 = (183 : Int32) → w_Exact_withSign x2 32 h2 (fun (r6 : Int64) (h5 : xb_H) => xb_ext h2 h5 → w_Exact_turnedInto_L235 Qr x4 r6 x0 h5))))

def w_Exact_turnedInto_L205 (Qr : Int64 → xb_H → Prop) (x4 : Int32) (y0 : Int64) (y1 : Nat) (h : xb_H) : Prop :=
    xb_k h y1 = 10 ∧ w_Exact_floating y1 y0 x4 h (fun (r3 : Int64) (h2 : xb_H) => xb_ext h h2 → Qr r3 h2)

def w_Exact_turnedInto_L204 (Qr : Int64 → xb_H → Prop) (x2 : Int64) (x4 : Int32) (y0 : Nat) (h : xb_H) : Prop :=
    w_Exact_turnedInto_L205 Qr x4 x2 y0 h

def w_Exact_turnedInto_L176 (Qr : Int64 → xb_H → Prop) (x0 : Nat) (x1 : Int32) (x2 : Int64) (x4 : Int32) (h : xb_H) : Prop :=
    xb_k h x0 = 10 ∧ w_Exact_format x0 32 h (fun (h2 : xb_H) => xb_ext h h2 → ((x4 = (0 : Int32) → w_Exact_turnedInto_L204 Qr x2 x4 x0 h2) ∧ (¬ x4 = (0 : Int32) → (((180 : Int32) ≤ x1 → w_Exact_turnedInto_L204 Qr x2 x4 x0 h2) ∧ (¬ (180 : Int32) ≤ x1 → w_Exact_withSign x2 32 h2 (fun (r7 : Int64) (h6 : xb_H) => xb_ext h2 h6 → w_Exact_turnedInto_L205 Qr x4 r7 x0 h6))))))

def w_Exact_turnedInto_L175 (Qr : Int64 → xb_H → Prop) (y0 : Int64) (h : xb_H) : Prop :=
    Qr y0 h

def w_Exact_turnedInto_L160 (Qr : Int64 → xb_H → Prop) (x2 : Int64) (x4 : Int32) (h : xb_H) : Prop :=
    ((x4 = (0 : Int32) → w_Exact_turnedInto_L175 Qr x2 h) ∧ (¬ x4 = (0 : Int32) → w_Exact_withSign x2 32 h (fun (r3 : Int64) (h2 : xb_H) => xb_ext h h2 → w_Exact_turnedInto_L175 Qr r3 h2)))

def w_Exact_turnedInto_L82 (Qr : Int64 → xb_H → Prop) (x0 : Nat) (x1 : Int32) (x2 : Int64) (x4 : Int32) (h : xb_H) : Prop :=
    ((x1 = 172 → w_Exact_turnedInto_L160 Qr x2 x4 h) ∧ (x1 = 173 → w_Exact_turnedInto_L160 Qr x2 x4 h) ∧ (x1 = 174 → w_Exact_turnedInto_L287 Qr x2 h) ∧ (x1 = 175 → w_Exact_turnedInto_L287 Qr x2 h) ∧ (x1 = 176 → w_Exact_turnedInto_L287 Qr x2 h) ∧ (x1 = 177 → w_Exact_turnedInto_L287 Qr x2 h) ∧ (x1 = 178 → w_Exact_turnedInto_L176 Qr x0 x1 x2 x4 h) ∧ (x1 = 179 → w_Exact_turnedInto_L176 Qr x0 x1 x2 x4 h) ∧ (x1 = 180 → w_Exact_turnedInto_L176 Qr x0 x1 x2 x4 h) ∧ (x1 = 181 → w_Exact_turnedInto_L176 Qr x0 x1 x2 x4 h) ∧ (x1 = 182 → w_Exact_turnedInto_L249 Qr x0 x1 x2 h) ∧ (x1 = 183 → w_Exact_turnedInto_L211 Qr x0 x1 x2 x4 h) ∧ (x1 = 184 → w_Exact_turnedInto_L211 Qr x0 x1 x2 x4 h) ∧ (x1 = 185 → w_Exact_turnedInto_L211 Qr x0 x1 x2 x4 h) ∧ (x1 = 186 → w_Exact_turnedInto_L211 Qr x0 x1 x2 x4 h) ∧ (x1 = 187 → w_Exact_turnedInto_L249 Qr x0 x1 x2 h) ∧ (¬ x1 = 172 → ¬ x1 = 173 → ¬ x1 = 174 → ¬ x1 = 175 → ¬ x1 = 176 → ¬ x1 = 177 → ¬ x1 = 178 → ¬ x1 = 179 → ¬ x1 = 180 → ¬ x1 = 181 → ¬ x1 = 182 → ¬ x1 = 183 → ¬ x1 = 184 → ¬ x1 = 185 → ¬ x1 = 186 → ¬ x1 = 187 → w_Exact_turnedInto_L287 Qr x2 h))

def w_Exact_turnedInto_L76 (Qr : Int64 → xb_H → Prop) (x4 : Int32) (y0 : Int32) (y1 : Int64) (y2 : Nat) (h : xb_H) : Prop :=
    xb_k h y2 = 10 ∧ w_Exact_cut y2 y1 y0 x4 h (fun (r3 : Int64) (h2 : xb_H) => xb_ext h h2 → Qr r3 h2)

def w_Exact_turnedInto_L57 (Qr : Int64 → xb_H → Prop) (x0 : Nat) (x1 : Int32) (x2 : Int64) (x4 : Int32) (y0 : Int32) (y1 : Nat) (h : xb_H) : Prop :=
    xb_k h y1 = 10 ∧ w_Exact_format y1 y0 h (fun (h2 : xb_H) => xb_ext h h2 → (((172 : Int32) ≤ x1 → w_Exact_turnedInto_L76 Qr x4 64 x2 x0 h2) ∧ (¬ (172 : Int32) ≤ x1 → w_Exact_turnedInto_L76 Qr x4 32 x2 x0 h2)))

def w_Exact_turnedInto_L41 (Qr : Int64 → xb_H → Prop) (x0 : Nat) (x1 : Int32) (x2 : Int64) (x4 : Int32) (h : xb_H) : Prop :=
    w_Exact_first x1 h (fun (r2 : Int32) (h1 : xb_H) => xb_ext h h1 → ((¬ r2 = (2 : Int32) → w_Exact_turnedInto_L57 Qr x0 x1 x2 x4 64 x0 h1) ∧ (r2 = (2 : Int32) → w_Exact_turnedInto_L57 Qr x0 x1 x2 x4 32 x0 h1)))

def w_Exact_turnedInto_L27 (Qr : Int64 → xb_H → Prop) (x0 : Nat) (x1 : Int32) (x2 : Int64) (x4 : Int32) (h : xb_H) : Prop :=
    ((x1 < (174 : Int32) → w_Exact_turnedInto_L82 Qr x0 x1 x2 x4 h) ∧ (¬ x1 < (174 : Int32) → (((177 : Int32) < x1 → w_Exact_turnedInto_L82 Qr x0 x1 x2 x4 h) ∧ (¬ (177 : Int32) < x1 → w_Exact_turnedInto_L41 Qr x0 x1 x2 x4 h))))

def w_Exact_turnedInto_L11 (Qr : Int64 → xb_H → Prop) (x0 : Nat) (x1 : Int32) (x2 : Int64) (y0 : Int32) (h : xb_H) : Prop :=
    ((x1 < (168 : Int32) → w_Exact_turnedInto_L27 Qr x0 x1 x2 y0 h) ∧ (¬ x1 < (168 : Int32) → ((x1 ≤ (171 : Int32) → w_Exact_turnedInto_L41 Qr x0 x1 x2 y0 h) ∧ (¬ x1 ≤ (171 : Int32) → w_Exact_turnedInto_L27 Qr x0 x1 x2 y0 h))))

def w_Exact_turnedInto (x0 : Nat) (x1 : Int32) (x2 : Int64) (h : xb_H) (Qr : Int64 → xb_H → Prop) : Prop :=
    ((¬ (x1 - x1 / 2 * 2) = (0 : Int32) → w_Exact_turnedInto_L11 Qr x0 x1 x2 0 h) ∧ ((x1 - x1 / 2 * 2) = (0 : Int32) → w_Exact_turnedInto_L11 Qr x0 x1 x2 1 h))


def w_Checker_checkBody_L142 (Qr : xb_H → Nat → Nat → Prop) (Qt : String → xb_H → Nat → Nat → Prop) (x0 : Nat) (x1 : Int32) (h : xb_H) (bc : Nat) (bs : Nat) : Prop :=
    xb_k h x0 = 5 ∧ ∃ b2 : Nat, (xb_r h x0 0) = some b2 ∧ xb_k h b2 = 3 ∧ ∃ b4 : Nat, (xb_r h b2 11) = some b4 ∧ xb_k h b4 = 2 ∧ w_Row_setAt b4 x1 4 (Int32.toInt64 (xb_i h x0 5)) h (fun (h6 : xb_H) => xb_ext h h6 → Qr h6 bc bs)

def w_Checker_checkBody_L88 (Qr : xb_H → Nat → Nat → Prop) (Qt : String → xb_H → Nat → Nat → Prop) : Nat → Nat → Int32 → Int32 → xb_H → Nat → Nat → Prop
  | 0, _, _, _, _, _, _ => False
  | n9 + 1, x0, x1, x2, h, bc, bs =>
    xb_k h x0 = 5 ∧ ∃ b2 : Nat, (xb_r h x0 1) = some b2 ∧ xb_k h b2 = 100 ∧ (((nI (xb_n h b2)) ≤ x2 → w_Checker_checkBody_L142 Qr Qt x0 x1 h bc bs) ∧ (¬ (nI (xb_n h b2)) ≤ x2 → (((xb_i h x0 16) ≤ (0 : Int32) → w_Checker_checkBody_L142 Qr Qt x0 x1 h bc bs) ∧ (¬ (xb_i h x0 16) ≤ (0 : Int32) → ∃ b6 : Nat, (xb_r h x0 1) = some b6 ∧ xb_k h b6 = 100 ∧ vp_in (xb_i h x0 9) (xb_n h b6) ∧ w_Checker_checkInstruction x0 ((xb_i h b6 (Int32.toNatClampNeg (xb_i h x0 9))) &&& 255) h bc bs (fun (h9 : xb_H) (bc10 bs10 : Nat) => xb_ext h h9 → ∃ b11 : Nat, (xb_r h9 x0 0) = some b11 ∧ xb_k h9 b11 = 3 ∧ w_StackModule_nextPlace b11 (xb_i h9 x0 9) h9 (fun (r14 : Int32) (h13 : xb_H) => xb_ext h9 h13 → ∀ h15 : xb_H, h15 = xb_I h13 x0 9 r14 → w_Checker_checkBody_L88 Qr Qt n9 x0 x1 (x2 + 1) h15 bc10 bs10)) Qt))))

def w_Checker_checkBody (x0 : Nat) (x1 : Int32) (h : xb_H) (bc : Nat) (bs : Nat) (Qr : xb_H → Nat → Nat → Prop) (Qt : String → xb_H → Nat → Nat → Prop) : Prop :=
    xb_k h x0 = 5 ∧ ∃ b2 : Nat, (xb_r h x0 0) = some b2 ∧ ∃ b3 : Nat, (xb_r h x0 0) = some b3 ∧ xb_k h b3 = 3 ∧ ∃ b5 : Nat, (xb_r h b3 14) = some b5 ∧ xb_k h b5 = 102 ∧ vp_in 0 (xb_n h b5) ∧ xb_k h b2 = 3 ∧ w_StackModule_typeOf b2 ((xb_i h b5 0) + x1) h (fun (r10 : Int32) (h9 : xb_H) => xb_ext h h9 → ∀ h11 : xb_H, h11 = xb_I h9 x0 8 r10 → w_Checker_spreadLocals x0 x1 h11 (fun (h12 : xb_H) => xb_ext h11 h12 → ∀ h14 : xb_H, h14 = xb_I h12 x0 4 0 → ∀ h15 : xb_H, h15 = xb_I h14 x0 5 0 → ∀ h16 : xb_H, h16 = xb_I h15 x0 16 0 → ∃ b17 : Nat, (xb_r h16 x0 0) = some b17 ∧ xb_k h16 b17 = 3 ∧ ∃ b19 : Nat, (xb_r h16 b17 11) = some b19 ∧ xb_k h16 b19 = 2 ∧ w_Row_at b19 x1 0 h16 (fun (r22 : Int32) (h21 : xb_H) => xb_ext h16 h21 → ∀ h23 : xb_H, h23 = xb_I h21 x0 9 r22 → ∃ b24 : Nat, (xb_r h23 x0 0) = some b24 ∧ xb_k h23 b24 = 3 ∧ w_StackModule_resultType b24 (xb_i h23 x0 8) h23 (fun (r27 : Int32) (h26 : xb_H) => xb_ext h23 h26 → ∃ b28 : Nat, (xb_r h26 x0 0) = some b28 ∧ xb_k h26 b28 = 3 ∧ w_StackModule_resultType b28 (xb_i h26 x0 8) h26 (fun (r31 : Int32) (h30 : xb_H) => xb_ext h26 h30 → w_Checker_openThing x0 0 (-1) r27 r31 h30 (fun (h32 : xb_H) => xb_ext h30 h32 → (∃ n8 : Nat, w_Checker_checkBody_L88 Qr Qt n8 x0 x1 0 h32 bc bs)))))))


def w_Machine_control_L407 (Qr : xb_H → Nat → Nat → Prop) (h : xb_H) (bc : Nat) (bs : Nat) : Prop :=
    Qr h bc bs

def w_Machine_control_L402 (Qr : xb_H → Nat → Nat → Prop) (x0 : Nat) (h : xb_H) (bc : Nat) (bs : Nat) : Prop :=
    xb_k h x0 = 8 ∧ w_Machine_fall x0 1 h (fun (h2 : xb_H) => xb_ext h h2 → w_Machine_control_L407 Qr h2 bc bs)

def w_Machine_control_L389 (Qr : xb_H → Nat → Nat → Prop) (x0 : Nat) (h : xb_H) (bc : Nat) (bs : Nat) : Prop :=
    xb_k h x0 = 8 ∧ ∀ h2 : xb_H, h2 = xb_I h x0 15 ((xb_i h x0 15) + 1) → w_Machine_control_L407 Qr h2 bc bs

def w_Machine_control_L159 (Qr : xb_H → Nat → Nat → Prop) (y0 : Int32) (y1 : Nat) (h : xb_H) (bc : Nat) (bs : Nat) : Prop :=
    xb_k h y1 = 8 ∧ ∀ h2 : xb_H, h2 = xb_I h y1 15 y0 → w_Machine_control_L407 Qr h2 bc bs

set_option maxRecDepth 100000 in
def w_Machine_control (x0 : Nat) (x1 : Int32) (h : xb_H) (bc : Nat) (bs : Nat) (Qr : xb_H → Nat → Nat → Prop) : Prop :=
    ((x1 = 4 → xb_k h x0 = 8 ∧ ∀ h3 : xb_H, h3 = xb_I h x0 10 ((xb_i h x0 10) - 1) → ∃ b4 : Nat, (xb_r h3 x0 9) = some b4 ∧ xb_k h3 b4 = 103 ∧ vp_in (xb_i h3 x0 10) (xb_n h3 b4) ∧ (((xb_l h3 b4 (Int32.toNatClampNeg (xb_i h3 x0 10))) = (0 : Int64) → ∃ b8 : Nat, (xb_r h3 x0 14) = some b8 ∧ xb_k h3 b8 = 102 ∧ vp_in ((xb_i h3 x0 15) + 1) (xb_n h3 b8) ∧ w_Machine_control_L159 Qr ((xb_i h3 b8 (Int32.toNatClampNeg ((xb_i h3 x0 15) + 1))) + 1) x0 h3 bc bs) ∧ (¬ (xb_l h3 b4 (Int32.toNatClampNeg (xb_i h3 x0 10))) = (0 : Int64) → w_Machine_control_L159 Qr ((xb_i h3 x0 15) + 2) x0 h3 bc bs))) ∧ (x1 = 5 → w_Machine_control_L402 Qr x0 h bc bs) ∧ (x1 = 6 → w_Machine_control_L402 Qr x0 h bc bs) ∧ (x1 = 7 → w_Machine_control_L402 Qr x0 h bc bs) ∧ (x1 = 8 → w_Machine_control_L402 Qr x0 h bc bs) ∧ (x1 = 9 → w_Machine_control_L402 Qr x0 h bc bs) ∧ (x1 = 10 → w_Machine_control_L402 Qr x0 h bc bs) ∧ (x1 = 11 → w_Machine_control_L402 Qr x0 h bc bs) ∧ (x1 = 12 → xb_k h x0 = 8 ∧ ∃ b20 : Nat, (xb_r h x0 14) = some b20 ∧ xb_k h b20 = 102 ∧ vp_in ((xb_i h x0 15) + 1) (xb_n h b20) ∧ w_Machine_branch x0 (xb_i h b20 (Int32.toNatClampNeg ((xb_i h x0 15) + 1))) h (fun (h23 : xb_H) => xb_ext h h23 → w_Machine_control_L407 Qr h23 bc bs)) ∧ (x1 = 13 → xb_k h x0 = 8 ∧ ∀ h27 : xb_H, h27 = xb_I h x0 10 ((xb_i h x0 10) - 1) → ∃ b28 : Nat, (xb_r h27 x0 9) = some b28 ∧ xb_k h27 b28 = 103 ∧ vp_in (xb_i h27 x0 10) (xb_n h27 b28) ∧ (((xb_l h27 b28 (Int32.toNatClampNeg (xb_i h27 x0 10))) = (0 : Int64) → ∃ b32 : Nat, (xb_r h27 x0 14) = some b32 ∧ xb_k h27 b32 = 102 ∧ vp_in (xb_i h27 x0 15) (xb_n h27 b32) ∧ ∀ h35 : xb_H, h35 = xb_I h27 x0 15 (xb_i h27 b32 (Int32.toNatClampNeg (xb_i h27 x0 15))) → w_Machine_control_L407 Qr h35 bc bs) ∧ (¬ (xb_l h27 b28 (Int32.toNatClampNeg (xb_i h27 x0 10))) = (0 : Int64) → ∃ b36 : Nat, (xb_r h27 x0 14) = some b36 ∧ xb_k h27 b36 = 102 ∧ vp_in ((xb_i h27 x0 15) + 1) (xb_n h27 b36) ∧ w_Machine_branch x0 (xb_i h27 b36 (Int32.toNatClampNeg ((xb_i h27 x0 15) + 1))) h27 (fun (h39 : xb_H) => xb_ext h27 h39 → w_Machine_control_L407 Qr h39 bc bs)))) ∧ (x1 = 14 → xb_k h x0 = 8 ∧ w_Machine_chosenLabel x0 h (fun (r44 : Int32) (h43 : xb_H) => xb_ext h h43 → w_Machine_branch x0 r44 h43 (fun (h45 : xb_H) => xb_ext h43 h45 → w_Machine_control_L407 Qr h45 bc bs))) ∧ (x1 = 15 → xb_k h x0 = 8 ∧ w_Machine_endCall x0 h (fun (h49 : xb_H) => xb_ext h h49 → w_Machine_control_L407 Qr h49 bc bs)) ∧ (x1 = 16 → xb_k h x0 = 8 ∧ ∃ b53 : Nat, (xb_r h x0 12) = some b53 ∧ ∃ b54 : Nat, (xb_r h x0 14) = some b54 ∧ xb_k h b54 = 102 ∧ vp_in ((xb_i h x0 15) + 1) (xb_n h b54) ∧ xb_k h b53 = 11 ∧ w_Instance_functionId b53 (xb_i h b54 (Int32.toNatClampNeg ((xb_i h x0 15) + 1))) h (fun (r59 : Int32) (h58 : xb_H) => xb_ext h h58 → ∃ b60 : Nat, (xb_r h58 x0 14) = some b60 ∧ xb_k h58 b60 = 102 ∧ vp_in (xb_i h58 x0 15) (xb_n h58 b60) ∧ w_Machine_call x0 r59 (xb_i h58 b60 (Int32.toNatClampNeg (xb_i h58 x0 15))) h58 bc bs (fun (h63 : xb_H) (bc64 bs64 : Nat) => xb_ext h58 h63 → w_Machine_control_L407 Qr h63 bc64 bs64))) ∧ (x1 = 17 → xb_k h x0 = 8 ∧ w_Machine_chosenElement x0 h (fun (r68 : Int32) (h67 : xb_H) => xb_ext h h67 → ((r68 = ((-1) : Int32) → w_Machine_control_L407 Qr h67 bc bs) ∧ (¬ r68 = ((-1) : Int32) → ∃ b70 : Nat, (xb_r h67 x0 14) = some b70 ∧ xb_k h67 b70 = 102 ∧ vp_in (xb_i h67 x0 15) (xb_n h67 b70) ∧ w_Machine_call x0 r68 (xb_i h67 b70 (Int32.toNatClampNeg (xb_i h67 x0 15))) h67 bc bs (fun (h73 : xb_H) (bc74 bs74 : Nat) => xb_ext h67 h73 → w_Machine_control_L407 Qr h73 bc74 bs74))))) ∧ (x1 = 18 → w_Machine_control_L402 Qr x0 h bc bs) ∧ (x1 = 19 → w_Machine_control_L402 Qr x0 h bc bs) ∧ (x1 = 20 → w_Machine_control_L402 Qr x0 h bc bs) ∧ (x1 = 21 → w_Machine_control_L402 Qr x0 h bc bs) ∧ (x1 = 22 → w_Machine_control_L402 Qr x0 h bc bs) ∧ (x1 = 23 → w_Machine_control_L402 Qr x0 h bc bs) ∧ (x1 = 24 → w_Machine_control_L402 Qr x0 h bc bs) ∧ (x1 = 25 → w_Machine_control_L402 Qr x0 h bc bs) ∧ (x1 = 26 → xb_k h x0 = 8 ∧ ∀ h85 : xb_H, h85 = xb_I h x0 10 ((xb_i h x0 10) - 1) → ∀ h86 : xb_H, h86 = xb_I h85 x0 15 ((xb_i h85 x0 15) + 1) → w_Machine_control_L407 Qr h86 bc bs) ∧ (x1 = 27 → xb_k h x0 = 8 ∧ ∀ h89 : xb_H, h89 = xb_I h x0 10 ((xb_i h x0 10) - 2) → ∃ b90 : Nat, (xb_r h89 x0 9) = some b90 ∧ xb_k h89 b90 = 103 ∧ vp_in ((xb_i h89 x0 10) + 1) (xb_n h89 b90) ∧ ((¬ (xb_l h89 b90 (Int32.toNatClampNeg ((xb_i h89 x0 10) + 1))) = (0 : Int64) → w_Machine_control_L389 Qr x0 h89 bc bs) ∧ ((xb_l h89 b90 (Int32.toNatClampNeg ((xb_i h89 x0 10) + 1))) = (0 : Int64) → ∃ b94 : Nat, (xb_r h89 x0 9) = some b94 ∧ ∃ b95 : Nat, (xb_r h89 x0 9) = some b95 ∧ xb_k h89 b95 = 103 ∧ vp_in (xb_i h89 x0 10) (xb_n h89 b95) ∧ xb_k h89 b94 = 103 ∧ vp_in ((xb_i h89 x0 10) - 1) (xb_n h89 b94) ∧ ∀ h100 : xb_H, h100 = xb_L h89 b94 (Int32.toNatClampNeg ((xb_i h89 x0 10) - 1)) (xb_l h89 b95 (Int32.toNatClampNeg (xb_i h89 x0 10))) → w_Machine_control_L389 Qr x0 h100 bc bs))) ∧ (¬ x1 = 4 → ¬ x1 = 5 → ¬ x1 = 6 → ¬ x1 = 7 → ¬ x1 = 8 → ¬ x1 = 9 → ¬ x1 = 10 → ¬ x1 = 11 → ¬ x1 = 12 → ¬ x1 = 13 → ¬ x1 = 14 → ¬ x1 = 15 → ¬ x1 = 16 → ¬ x1 = 17 → ¬ x1 = 18 → ¬ x1 = 19 → ¬ x1 = 20 → ¬ x1 = 21 → ¬ x1 = 22 → ¬ x1 = 23 → ¬ x1 = 24 → ¬ x1 = 25 → ¬ x1 = 26 → ¬ x1 = 27 → w_Machine_control_L402 Qr x0 h bc bs))


def w_Reader_readSection_L294 (Qr : xb_H → Nat → Nat → Prop) (Qt : String → xb_H → Nat → Nat → Prop) (x0 : Nat) (h : xb_H) (bc : Nat) (bs : Nat) : Prop :=
    xb_k h x0 = 4 ∧ ∃ b2 : Nat, (xb_r h x0 1) = some b2 ∧ xb_k h b2 = 100 ∧ ∀ h4 : xb_H, h4 = xb_I h x0 4 (nI (xb_n h b2)) → Qr h4 bc bs

def w_Reader_readSection_L261 (K45 : Nat → Int32 → Int64 → Int64 → xb_H → Nat → Nat → Prop) (Qr : xb_H → Nat → Nat → Prop) (Qt : String → xb_H → Nat → Nat → Prop) (x0 : Nat) (x1 : Int32) (x3 : Int64) (x5 : Int64) (h : xb_H) (bc : Nat) (bs : Nat) : Prop :=
    ∀ v1 : Int64, v1 = (x5 + 1) → K45 x0 x1 x3 v1 h bc bs

set_option maxRecDepth 100000 in
def w_Reader_readSection_L45 (Qr : xb_H → Nat → Nat → Prop) (Qt : String → xb_H → Nat → Nat → Prop) : Nat → Nat → Int32 → Int64 → Int64 → xb_H → Nat → Nat → Prop
  | 0, _, _, _, _, _, _, _ => False
  | n9 + 1, x0, x1, x3, x5, h, bc, bs =>
    ((x3 ≤ x5 → xb_k h x0 = 4 ∧ (((xb_i h x0 4) ≤ (xb_i h x0 3) → w_Reader_readSection_L294 Qr Qt x0 h bc bs) ∧ (¬ (xb_i h x0 4) ≤ (xb_i h x0 3) → ∃ b4 : Nat, (xb_r h x0 0) = some b4 ∧ xb_k h b4 = 3 ∧ w_StackModule_fail b4 7 (xb_i h x0 3) h bc bs (fun (h6 : xb_H) (bc7 bs7 : Nat) => xb_ext h h6 → w_Reader_readSection_L294 Qr Qt x0 h6 bc7 bs7) Qt))) ∧ (¬ x3 ≤ x5 → ((x1 = 0 → xb_k h x0 = 4 ∧ w_Reader_readName x0 h bc bs (fun (r11 : Int32) (h10 : xb_H) (bc11 bs11 : Nat) => xb_ext h h10 → ∀ h12 : xb_H, h12 = xb_I h10 x0 3 (xb_i h10 x0 4) → w_Reader_readSection_L261 (w_Reader_readSection_L45 Qr Qt n9) Qr Qt x0 x1 x3 x5 h12 bc11 bs11) Qt) ∧ (x1 = 1 → xb_k h x0 = 4 ∧ w_Reader_readType x0 h bc bs (fun (h15 : xb_H) (bc16 bs16 : Nat) => xb_ext h h15 → w_Reader_readSection_L261 (w_Reader_readSection_L45 Qr Qt n9) Qr Qt x0 x1 x3 x5 h15 bc16 bs16) Qt) ∧ (x1 = 2 → xb_k h x0 = 4 ∧ w_Reader_readImport x0 h bc bs (fun (h19 : xb_H) (bc20 bs20 : Nat) => xb_ext h h19 → w_Reader_readSection_L261 (w_Reader_readSection_L45 Qr Qt n9) Qr Qt x0 x1 x3 x5 h19 bc20 bs20) Qt) ∧ (x1 = 3 → xb_k h x0 = 4 ∧ ∃ b23 : Nat, (xb_r h x0 0) = some b23 ∧ xb_k h b23 = 3 ∧ ∃ b25 : Nat, (xb_r h b23 4) = some b25 ∧ xb_k h b25 = 2 ∧ w_Row_add b25 (Int32.toInt64 (xb_i h x0 3)) h bc bs (fun (h27 : xb_H) (bc28 bs28 : Nat) => xb_ext h h27 → ∃ b29 : Nat, (xb_r h27 x0 0) = some b29 ∧ xb_k h27 b29 = 3 ∧ ∃ b31 : Nat, (xb_r h27 b29 4) = some b31 ∧ w_Reader_count x0 h27 bc28 bs28 (fun (r33 : Int32) (h32 : xb_H) (bc33 bs33 : Nat) => xb_ext h27 h32 → xb_k h32 b31 = 2 ∧ w_Row_add b31 ((Int32.toInt64 r33) &&& 4294967295) h32 bc33 bs33 (fun (h35 : xb_H) (bc36 bs36 : Nat) => xb_ext h32 h35 → w_Reader_readSection_L261 (w_Reader_readSection_L45 Qr Qt n9) Qr Qt x0 x1 x3 x5 h35 bc36 bs36)) Qt)) ∧ (x1 = 4 → xb_k h x0 = 4 ∧ w_Reader_readTable x0 h bc bs (fun (h39 : xb_H) (bc40 bs40 : Nat) => xb_ext h h39 → w_Reader_readSection_L261 (w_Reader_readSection_L45 Qr Qt n9) Qr Qt x0 x1 x3 x5 h39 bc40 bs40) Qt) ∧ (x1 = 5 → xb_k h x0 = 4 ∧ ∃ b43 : Nat, (xb_r h x0 0) = some b43 ∧ xb_k h b43 = 3 ∧ ∃ b45 : Nat, (xb_r h b43 6) = some b45 ∧ w_Reader_readLimits x0 b45 (xb_i h x0 3) h bc bs (fun (h46 : xb_H) (bc47 bs47 : Nat) => xb_ext h h46 → w_Reader_readSection_L261 (w_Reader_readSection_L45 Qr Qt n9) Qr Qt x0 x1 x3 x5 h46 bc47 bs47) Qt) ∧ (x1 = 6 → xb_k h x0 = 4 ∧ w_Reader_readVariable x0 h bc bs (fun (h50 : xb_H) (bc51 bs51 : Nat) => xb_ext h h50 → w_Reader_readSection_L261 (w_Reader_readSection_L45 Qr Qt n9) Qr Qt x0 x1 x3 x5 h50 bc51 bs51) Qt) ∧ (x1 = 7 → xb_k h x0 = 4 ∧ w_Reader_readExport x0 h bc bs (fun (h54 : xb_H) (bc55 bs55 : Nat) => xb_ext h h54 → w_Reader_readSection_L261 (w_Reader_readSection_L45 Qr Qt n9) Qr Qt x0 x1 x3 x5 h54 bc55 bs55) Qt) ∧ (x1 = 8 → xb_k h x0 = 4 ∧ ∃ b58 : Nat, (xb_r h x0 0) = some b58 ∧ xb_k h b58 = 3 ∧ ∀ h60 : xb_H, h60 = xb_I h b58 16 (xb_i h x0 3) → ∃ b61 : Nat, (xb_r h60 x0 0) = some b61 ∧ w_Reader_count x0 h60 bc bs (fun (r63 : Int32) (h62 : xb_H) (bc63 bs63 : Nat) => xb_ext h60 h62 → xb_k h62 b61 = 3 ∧ ∀ h65 : xb_H, h65 = xb_I h62 b61 15 r63 → w_Reader_readSection_L261 (w_Reader_readSection_L45 Qr Qt n9) Qr Qt x0 x1 x3 x5 h65 bc63 bs63) Qt) ∧ (x1 = 9 → xb_k h x0 = 4 ∧ w_Reader_readElements x0 h bc bs (fun (h68 : xb_H) (bc69 bs69 : Nat) => xb_ext h h68 → w_Reader_readSection_L261 (w_Reader_readSection_L45 Qr Qt n9) Qr Qt x0 x1 x3 x5 h68 bc69 bs69) Qt) ∧ (x1 = 10 → xb_k h x0 = 4 ∧ w_Reader_readBody x0 h bc bs (fun (h72 : xb_H) (bc73 bs73 : Nat) => xb_ext h h72 → w_Reader_readSection_L261 (w_Reader_readSection_L45 Qr Qt n9) Qr Qt x0 x1 x3 x5 h72 bc73 bs73) Qt) ∧ (¬ x1 = 0 → ¬ x1 = 1 → ¬ x1 = 2 → ¬ x1 = 3 → ¬ x1 = 4 → ¬ x1 = 5 → ¬ x1 = 6 → ¬ x1 = 7 → ¬ x1 = 8 → ¬ x1 = 9 → ¬ x1 = 10 → xb_k h x0 = 4 ∧ w_Reader_readData x0 h bc bs (fun (h75 : xb_H) (bc76 bs76 : Nat) => xb_ext h h75 → w_Reader_readSection_L261 (w_Reader_readSection_L45 Qr Qt n9) Qr Qt x0 x1 x3 x5 h75 bc76 bs76) Qt))))

def w_Reader_readSection_L41 (Qr : xb_H → Nat → Nat → Prop) (Qt : String → xb_H → Nat → Nat → Prop) (x0 : Nat) (x1 : Int32) (y0 : Int64) (h : xb_H) (bc : Nat) (bs : Nat) : Prop :=
    (∃ n8 : Nat, w_Reader_readSection_L45 Qr Qt n8 x0 x1 y0 0 h bc bs)

def w_Reader_readSection_L23 (Qr : xb_H → Nat → Nat → Prop) (Qt : String → xb_H → Nat → Nat → Prop) (x0 : Nat) (x1 : Int32) (y0 : Int32) (h : xb_H) (bc : Nat) (bs : Nat) : Prop :=
    ((y0 = (0 : Int32) → w_Reader_readSection_L41 Qr Qt x0 x1 1 h bc bs) ∧ (¬ y0 = (0 : Int32) → xb_k h x0 = 4 ∧ w_Reader_count x0 h bc bs (fun (r4 : Int32) (h3 : xb_H) (bc4 bs4 : Nat) => xb_ext h h3 → w_Reader_readSection_L41 Qr Qt x0 x1 ((Int32.toInt64 r4) &&& 4294967295) h3 bc4 bs4) Qt))

def w_Reader_readSection_L22 (Qr : xb_H → Nat → Nat → Prop) (Qt : String → xb_H → Nat → Nat → Prop) (x0 : Nat) (x1 : Int32) (h : xb_H) (bc : Nat) (bs : Nat) : Prop :=
    w_Reader_readSection_L23 Qr Qt x0 x1 0 h bc bs

def w_Reader_readSection (x0 : Nat) (x1 : Int32) (h : xb_H) (bc : Nat) (bs : Nat) (Qr : xb_H → Nat → Nat → Prop) (Qt : String → xb_H → Nat → Nat → Prop) : Prop :=
    xb_k h x0 = 4 ∧ w_Reader_count x0 h bc bs (fun (r3 : Int32) (h2 : xb_H) (bc3 bs3 : Nat) => xb_ext h h2 → w_Reader_limitTo x0 r3 h2 bc3 bs3 (fun (h4 : xb_H) (bc5 bs5 : Nat) => xb_ext h2 h4 → ((x1 = (0 : Int32) → w_Reader_readSection_L22 Qr Qt x0 x1 h4 bc5 bs5) ∧ (¬ x1 = (0 : Int32) → ((x1 = (8 : Int32) → w_Reader_readSection_L22 Qr Qt x0 x1 h4 bc5 bs5) ∧ (¬ x1 = (8 : Int32) → w_Reader_readSection_L23 Qr Qt x0 x1 1 h4 bc5 bs5))))) Qt) Qt


def w_World_link_L38 (σ : Nat) (Qr : Int32 → xb_H → Nat → Nat → Prop) : Nat → Nat → Nat → Int32 → xb_H → Nat → Nat → Prop
  | 0, _, _, _, _, _, _ => False
  | n9 + 1, x0, x1, x2, h, bc, bs =>
    xb_k h x1 = 3 ∧ ∃ b2 : Nat, (xb_r h x1 3) = some b2 ∧ xb_k h b2 = 2 ∧ w_Row_lines b2 h (fun (r5 : Int32) (h4 : xb_H) => xb_ext h h4 → ((r5 ≤ x2 → xb_k h4 x0 = 7 ∧ w_World_isTooMuch x0 x1 h4 (fun (r9 : Int32) (h8 : xb_H) => xb_ext h4 h8 → ((r9 = (0 : Int32) → ∃ b11 : Nat, (xb_r h8 x1 9) = some b11 ∧ w_World_elementsOf x0 x1 h8 (fun (r13 : Int64) (h12 : xb_H) => xb_ext h8 h12 → w_World_rowBeyond x0 x1 b11 r13 h12 (fun (r15 : Int32) (h14 : xb_H) => xb_ext h12 h14 → ((r15 = ((-1) : Int32) → ∃ b17 : Nat, (xb_r h14 x1 13) = some b17 ∧ w_World_bytesOf x0 x1 h14 (fun (r19 : Int64) (h18 : xb_H) => xb_ext h14 h18 → w_World_rowBeyond x0 x1 b17 r19 h18 (fun (r21 : Int32) (h20 : xb_H) => xb_ext h18 h20 → ((r21 = ((-1) : Int32) → w_World_make x0 x1 h20 bc bs (fun (r24 : Int32) (h23 : xb_H) (bc24 bs24 : Nat) => xb_ext h20 h23 → Qr r24 h23 bc24 bs24)) ∧ (¬ r21 = ((-1) : Int32) → w_World_refuse x0 46 r21 h20 (fun (r26 : Int32) (h25 : xb_H) => xb_ext h20 h25 → Qr r26 h25 bc bs)))))) ∧ (¬ r15 = ((-1) : Int32) → w_World_refuse x0 45 r15 h14 (fun (r28 : Int32) (h27 : xb_H) => xb_ext h14 h27 → Qr r28 h27 bc bs)))))) ∧ (¬ r9 = (0 : Int32) → w_World_refuse x0 44 0 h8 (fun (r30 : Int32) (h29 : xb_H) => xb_ext h8 h29 → Qr r30 h29 bc bs))))) ∧ (¬ r5 ≤ x2 → xb_k h4 x0 = 7 ∧ w_World_lookUp σ x0 x1 x2 h4 bc bs (fun (r33 : Int32) (h32 : xb_H) (bc33 bs33 : Nat) => xb_ext h4 h32 → ((r33 = (0 : Int32) → w_World_link_L38 σ Qr n9 x0 x1 (x2 + 1) h32 bc33 bs33) ∧ (¬ r33 = (0 : Int32) → w_World_refuse x0 r33 x2 h32 (fun (r36 : Int32) (h35 : xb_H) => xb_ext h32 h35 → Qr r36 h35 bc33 bs33)))))))

def w_World_link (σ : Nat) (x0 : Nat) (x1 : Nat) (h : xb_H) (bc : Nat) (bs : Nat) (Qr : Int32 → xb_H → Nat → Nat → Prop) : Prop :=
    xb_k h x0 = 7 ∧ ∀ h2 : xb_H, h2 = xb_I h x0 7 0 → ∀ h3 : xb_H, h3 = xb_I h2 x0 8 0 → ∃ b4 : Nat, (xb_r h3 x0 12) = some b4 ∧ xb_k h3 b4 = 2 ∧ ∀ h6 : xb_H, h6 = xb_I h3 b4 1 0 → ∃ b7 : Nat, (xb_r h6 x0 13) = some b7 ∧ xb_k h6 b7 = 2 ∧ ∀ h9 : xb_H, h9 = xb_I h6 b7 1 0 → ∀ h10 : xb_H, h10 = xb_P h9 x0 14 none → ∀ h11 : xb_H, h11 = xb_P h10 x0 15 none → (∃ n8 : Nat, w_World_link_L38 σ Qr n8 x0 x1 0 h11 bc bs)


def w_Law_name (x0 : Nat) (x1 : Int32) (h : xb_H) (bc : Nat) (bs : Nat) (Qr : Int32 → xb_H → Nat → Nat → Prop) : Prop :=
    xb_k h x0 = 1 ∧ w_H_name x0 x1 h bc bs (fun (h2 : xb_H) (bc3 bs3 : Nat) => xb_ext h h2 → Qr 0 h2 bc3 bs3) (fun (XX : String) (h2 : xb_H) (bc3 bs3 : Nat) => xb_ext h h2 → ∀ ax : Nat, (XX = "java/lang/IndexOutOfBoundsException" ∧ Qr 1 h2 bc3 bs3))


def w_M_checkImports_L144 (Qr : xb_H → Prop) (h : xb_H) : Prop :=
    Qr h

def w_M_checkImports_L138 (K7 : Nat → Int32 → Int32 → Int32 → Int32 → xb_H → Prop) (Qr : xb_H → Prop) (x0 : Nat) (x1 : Int32) (x2 : Int32) (x3 : Int32) (x4 : Int32) (h : xb_H) : Prop :=
    K7 x0 x1 x2 x3 (x4 + 1) h

def w_M_checkImports_L132 (K7 : Nat → Int32 → Int32 → Int32 → Int32 → xb_H → Prop) (Qr : xb_H → Prop) (x0 : Nat) (x1 : Int32) (x2 : Int32) (x3 : Int32) (x4 : Int32) (y0 : Int32) (y1 : Int32) (y2 : Int32) (y3 : Nat) (h : xb_H) : Prop :=
    xb_k h y3 = 9 ∧ w_M_limitsFault y3 y2 y1 y0 h (fun (h2 : xb_H) => xb_ext h h2 → w_M_checkImports_L138 K7 Qr x0 x1 x2 (x3 + 1) x4 h2)

def w_M_checkImports_L104 (K7 : Nat → Int32 → Int32 → Int32 → Int32 → xb_H → Prop) (Qr : xb_H → Prop) (x0 : Nat) (x1 : Int32) (x2 : Int32) (x3 : Int32) (x4 : Int32) (y0 : Int32) (y1 : Int32) (y2 : Int32) (y3 : Nat) (h : xb_H) : Prop :=
    xb_k h y3 = 9 ∧ w_M_limitsFault y3 y2 y1 y0 h (fun (h2 : xb_H) => xb_ext h h2 → w_M_checkImports_L138 K7 Qr x0 x1 (x2 + 1) x3 x4 h2)

def w_M_checkImports_L7 (Qr : xb_H → Prop) : Nat → Nat → Int32 → Int32 → Int32 → Int32 → xb_H → Prop
  | 0, _, _, _, _, _, _ => False
  | n9 + 1, x0, x1, x2, x3, x4, h =>
    xb_k h x0 = 9 ∧ w_M_manyOf x0 x1 2 h (fun (r3 : Int32) (h2 : xb_H) => xb_ext h h2 → ((r3 ≤ x4 → w_M_checkImports_L144 Qr h2) ∧ (¬ r3 ≤ x4 → ((¬ (xb_i h2 x0 17) = (0 : Int32) → w_M_checkImports_L144 Qr h2) ∧ ((xb_i h2 x0 17) = (0 : Int32) → w_M_placeOf x0 x1 2 x4 h2 (fun (r7 : Int32) (h6 : xb_H) => xb_ext h2 h6 → w_M_importAt x0 x1 x4 h6 (fun (r9 : Int32) (h8 : xb_H) => xb_ext h6 h8 → ((¬ r9 = (0 : Int32) → ((¬ r9 = (1 : Int32) → ((¬ r9 = (2 : Int32) → w_M_checkImports_L138 (w_M_checkImports_L7 Qr n9) Qr x0 x1 x2 x3 x4 h8) ∧ (r9 = (2 : Int32) → ((x3 ≤ (0 : Int32) → w_M_checkImports_L132 (w_M_checkImports_L7 Qr n9) Qr x0 x1 x2 x3 x4 0 r7 1 x0 h8) ∧ (¬ x3 ≤ (0 : Int32) → w_M_checkImports_L132 (w_M_checkImports_L7 Qr n9) Qr x0 x1 x2 x3 x4 1 r7 1 x0 h8))))) ∧ (r9 = (1 : Int32) → ∀ h14 : xb_H, h14 = xb_I h8 x0 15 ((xb_i h8 x0 15) + 1) → ((x2 ≤ (0 : Int32) → w_M_checkImports_L104 (w_M_checkImports_L7 Qr n9) Qr x0 x1 x2 x3 x4 0 r7 0 x0 h14) ∧ (¬ x2 ≤ (0 : Int32) → w_M_checkImports_L104 (w_M_checkImports_L7 Qr n9) Qr x0 x1 x2 x3 x4 1 r7 0 x0 h14))))) ∧ (r9 = (0 : Int32) → w_M_count x0 h8 (fun (r17 : Int64) (h16 : xb_H) => xb_ext h8 h16 → w_M_manyOf x0 x1 1 h16 (fun (r19 : Int32) (h18 : xb_H) => xb_ext h16 h18 → ((r17 < (Int32.toInt64 r19) → w_M_checkImports_L138 (w_M_checkImports_L7 Qr n9) Qr x0 x1 x2 x3 x4 h18) ∧ (¬ r17 < (Int32.toInt64 r19) → w_M_fail x0 20 r7 h18 (fun (h21 : xb_H) => xb_ext h18 h21 → w_M_checkImports_L138 (w_M_checkImports_L7 Qr n9) Qr x0 x1 x2 x3 x4 h21))))))))))))))

def w_M_checkImports (x0 : Nat) (x1 : Int32) (h : xb_H) (Qr : xb_H → Prop) : Prop :=
    (∃ n8 : Nat, w_M_checkImports_L7 Qr n8 x0 x1 0 0 0 h)


def w_M_exportNumber (x0 : Nat) (x1 : Int32) (x2 : Int32) (h : xb_H) (Qr : Int32 → xb_H → Prop) : Prop :=
    xb_k h x0 = 9 ∧ w_M_exportKind x0 x1 x2 h (fun (r3 : Int32) (h2 : xb_H) => xb_ext h h2 → w_M_count x0 h2 (fun (r5 : Int64) (h4 : xb_H) => xb_ext h2 h4 → Qr (Int64.toInt32 r5) h4))


def w_M_expression_L154 (Qr : xb_H → Prop) (h : xb_H) : Prop :=
    Qr h

def w_M_expression_L151 (K4 : Nat → Int32 → Int32 → xb_H → Prop) (Qr : xb_H → Prop) (x0 : Nat) (x1 : Int32) (x2 : Int32) (h : xb_H) : Prop :=
    K4 x0 x1 x2 h

def w_M_expression_L137 (K4 : Nat → Int32 → Int32 → xb_H → Prop) (Qr : xb_H → Prop) (x0 : Nat) (x1 : Int32) (x2 : Int32) (x3 : Int32) (x4 : Int32) (h : xb_H) : Prop :=
    xb_k h x0 = 9 ∧ ((¬ (xb_i h x0 17) = (0 : Int32) → w_M_expression_L151 K4 Qr x0 x1 x2 h) ∧ ((xb_i h x0 17) = (0 : Int32) → w_M_written x0 x4 x3 h (fun (h3 : xb_H) => xb_ext h h3 → w_M_expression_L151 K4 Qr x0 x1 x2 h3)))

def w_M_expression_L133 (K4 : Nat → Int32 → Int32 → xb_H → Prop) (Qr : xb_H → Prop) (x0 : Nat) (x1 : Int32) (x3 : Int32) (x4 : Int32) (y0 : Int32) (h : xb_H) : Prop :=
    w_M_expression_L137 K4 Qr x0 (x1 + (-1)) y0 x3 x4 h

def w_M_expression_L96 (K4 : Nat → Int32 → Int32 → xb_H → Prop) (Qr : xb_H → Prop) (x0 : Nat) (x1 : Int32) (x2 : Int32) (x3 : Int32) (x4 : Int32) (h : xb_H) : Prop :=
    xb_k h x0 = 9 ∧ w_M_fail x0 5 x3 h (fun (h2 : xb_H) => xb_ext h h2 → w_M_expression_L137 K4 Qr x0 x1 x2 x3 x4 h2)

def w_M_expression_L74 (K4 : Nat → Int32 → Int32 → xb_H → Prop) (Qr : xb_H → Prop) (x0 : Nat) (x1 : Int32) (x2 : Int32) (x3 : Int32) (x4 : Int32) (h : xb_H) : Prop :=
    ((¬ x4 = (5 : Int32) → ((¬ x4 = (11 : Int32) → w_M_expression_L137 K4 Qr x0 x1 x2 x3 x4 h) ∧ (x4 = (11 : Int32) → ((x1 ≤ (0 : Int32) → w_M_expression_L133 K4 Qr x0 x1 x3 x4 0 h) ∧ (¬ x1 ≤ (0 : Int32) → w_M_expression_L133 K4 Qr x0 x1 x3 x4 1 h))))) ∧ (x4 = (5 : Int32) → ((x1 = (0 : Int32) → w_M_expression_L96 K4 Qr x0 x1 x2 x3 x4 h) ∧ (¬ x1 = (0 : Int32) → xb_k h x0 = 9 ∧ ∃ b6 : Nat, (xb_r h x0 24) = some b6 ∧ xb_k h b6 = 102 ∧ vp_in (x1 - 1) (xb_n h b6) ∧ (((xb_i h b6 (Int32.toNatClampNeg (x1 - 1))) = (4 : Int32) → ∃ b10 : Nat, (xb_r h x0 24) = some b10 ∧ xb_k h b10 = 102 ∧ vp_in (x1 - 1) (xb_n h b10) ∧ ∀ h13 : xb_H, h13 = xb_I h b10 (Int32.toNatClampNeg (x1 - 1)) 5 → w_M_expression_L137 K4 Qr x0 x1 x2 x3 x4 h13) ∧ (¬ (xb_i h b6 (Int32.toNatClampNeg (x1 - 1))) = (4 : Int32) → w_M_expression_L96 K4 Qr x0 x1 x2 x3 x4 h))))))

def w_M_expression_L60 (K4 : Nat → Int32 → Int32 → xb_H → Prop) (Qr : xb_H → Prop) (x0 : Nat) (x1 : Int32) (x2 : Int32) (x3 : Int32) (x4 : Int32) (h : xb_H) : Prop :=
    xb_k h x0 = 9 ∧ ∃ b2 : Nat, (xb_r h x0 24) = some b2 ∧ xb_k h b2 = 102 ∧ vp_in x1 (xb_n h b2) ∧ ∀ h5 : xb_H, h5 = xb_I h b2 (Int32.toNatClampNeg x1) x4 → w_M_expression_L137 K4 Qr x0 (x1 + 1) x2 x3 x4 h5

def w_M_expression_L4 (Qr : xb_H → Prop) : Nat → Nat → Int32 → Int32 → xb_H → Prop
  | 0, _, _, _, _ => False
  | n9 + 1, x0, x1, x2, h =>
    ((x2 = (0 : Int32) → w_M_expression_L154 Qr h) ∧ (¬ x2 = (0 : Int32) → xb_k h x0 = 9 ∧ ((¬ (xb_i h x0 17) = (0 : Int32) → w_M_expression_L154 Qr h) ∧ ((xb_i h x0 17) = (0 : Int32) → ∀ v4 : Int32, v4 = (xb_i h x0 15) → w_M_next x0 h (fun (r6 : Int32) (h5 : xb_H) => xb_ext h h5 → (((xb_i h5 x0 17) = (0 : Int32) → ((r6 < (2 : Int32) → w_M_expression_L74 (w_M_expression_L4 Qr n9) Qr x0 x1 x2 v4 r6 h5) ∧ (¬ r6 < (2 : Int32) → (((4 : Int32) < r6 → w_M_expression_L74 (w_M_expression_L4 Qr n9) Qr x0 x1 x2 v4 r6 h5) ∧ (¬ (4 : Int32) < r6 → ((¬ x1 = (200 : Int32) → w_M_expression_L60 (w_M_expression_L4 Qr n9) Qr x0 x1 x2 v4 r6 h5) ∧ (x1 = (200 : Int32) → w_M_fail x0 10 v4 h5 (fun (h11 : xb_H) => xb_ext h5 h11 → w_M_expression_L60 (w_M_expression_L4 Qr n9) Qr x0 x1 x2 v4 r6 h11)))))))) ∧ (¬ (xb_i h5 x0 17) = (0 : Int32) → Qr h5)))))))

def w_M_expression (x0 : Nat) (h : xb_H) (Qr : xb_H → Prop) : Prop :=
    (∃ n8 : Nat, w_M_expression_L4 Qr n8 x0 0 1 h)


def w_M_find_L14 (Qr : Int32 → xb_H → Nat → Nat → Prop) (x0 : Nat) (x1 : Int32) (y0 : Int32) (y1 : Nat) (h : xb_H) (bc : Nat) (bs : Nat) : Prop :=
    xb_k h y1 = 9 ∧ ∀ h2 : xb_H, h2 = xb_I h y1 0 y0 → xb_k h2 x0 = 9 ∧ (((xb_i h2 x0 0) ≤ (0 : Int32) → ∀ v5 : Int32, v5 = (xb_i h2 x0 2) → w_M_keepTape x0 h2 bc bs (fun (r7 : Int32) (h6 : xb_H) (bc7 bs7 : Nat) => xb_ext h2 h6 → ∀ h8 : xb_H, h8 = xb_I h6 x0 4 r7 → w_M_exportNamed x0 x1 r7 v5 h8 (fun (r10 : Int32) (h9 : xb_H) => xb_ext h8 h9 → Qr r10 h9 bc7 bs7))) ∧ (¬ (xb_i h2 x0 0) ≤ (0 : Int32) → Qr 0 h2 bc bs))

def w_M_find (x0 : Nat) (x1 : Int32) (h : xb_H) (bc : Nat) (bs : Nat) (Qr : Int32 → xb_H → Nat → Nat → Prop) : Prop :=
    xb_k h x0 = 9 ∧ w_M_isInstance x0 x1 h (fun (r3 : Int32) (h2 : xb_H) => xb_ext h h2 → ((r3 = (0 : Int32) → w_M_find_L14 Qr x0 x1 1 x0 h2 bc bs) ∧ (¬ r3 = (0 : Int32) → w_M_find_L14 Qr x0 x1 0 x0 h2 bc bs)))


def w_M_importEntry_L104 (Qr : xb_H → Prop) (h : xb_H) : Prop :=
    Qr h

def w_M_importEntry_L80 (Qr : xb_H → Prop) (x0 : Nat) (x1 : Int32) (h : xb_H) : Prop :=
    xb_k h x0 = 9 ∧ ((¬ (xb_i h x0 17) = (0 : Int32) → w_M_importEntry_L104 Qr h) ∧ ((xb_i h x0 17) = (0 : Int32) → ∃ b3 : Nat, (xb_r h x0 10) = some b3 ∧ xb_k h b3 = 102 ∧ vp_in ((4 * (xb_i h x0 5)) + x1) (xb_n h b3) ∧ vp_in ((4 * (xb_i h x0 5)) + x1) (xb_n h b3) ∧ ∀ h7 : xb_H, h7 = xb_I h b3 (Int32.toNatClampNeg ((4 * (xb_i h x0 5)) + x1)) ((xb_i h b3 (Int32.toNatClampNeg ((4 * (xb_i h x0 5)) + x1))) + 1) → w_M_importEntry_L104 Qr h7))

def w_M_importEntry (x0 : Nat) (h : xb_H) (Qr : xb_H → Prop) : Prop :=
    xb_k h x0 = 9 ∧ w_M_name0 x0 h (fun (h2 : xb_H) => xb_ext h h2 → w_M_name0 x0 h2 (fun (h4 : xb_H) => xb_ext h2 h4 → w_M_next x0 h4 (fun (r7 : Int32) (h6 : xb_H) => xb_ext h4 h6 → (((xb_i h6 x0 17) = (0 : Int32) → ((¬ r7 = (0 : Int32) → ((¬ r7 = (1 : Int32) → ((¬ r7 = (2 : Int32) → ((¬ r7 = (3 : Int32) → w_M_fail x0 5 ((xb_i h6 x0 15) - 1) h6 (fun (h13 : xb_H) => xb_ext h6 h13 → w_M_importEntry_L80 Qr x0 r7 h13)) ∧ (r7 = (3 : Int32) → w_M_variableKind x0 h6 (fun (h15 : xb_H) => xb_ext h6 h15 → w_M_importEntry_L80 Qr x0 r7 h15)))) ∧ (r7 = (2 : Int32) → w_M_limits x0 h6 (fun (h17 : xb_H) => xb_ext h6 h17 → w_M_importEntry_L80 Qr x0 r7 h17)))) ∧ (r7 = (1 : Int32) → w_M_tableType x0 h6 (fun (h19 : xb_H) => xb_ext h6 h19 → w_M_importEntry_L80 Qr x0 r7 h19)))) ∧ (r7 = (0 : Int32) → w_M_count x0 h6 (fun (r22 : Int64) (h21 : xb_H) => xb_ext h6 h21 → w_M_importEntry_L80 Qr x0 r7 h21)))) ∧ (¬ (xb_i h6 x0 17) = (0 : Int32) → Qr h6)))))


def w_M_importOf_L39 (K6 : Nat → Int32 → Int32 → Int32 → Int32 → xb_H → Prop) (Qr : Int32 → xb_H → Prop) (x0 : Nat) (x1 : Int32) (x2 : Int32) (x4 : Int32) (x5 : Int32) (h : xb_H) : Prop :=
    K6 x0 x1 x2 x4 (x5 + 1) h

def w_M_importOf_L6 (Qr : Int32 → xb_H → Prop) : Nat → Nat → Int32 → Int32 → Int32 → Int32 → xb_H → Prop
  | 0, _, _, _, _, _, _ => False
  | n9 + 1, x0, x1, x2, x4, x5, h =>
    xb_k h x0 = 9 ∧ w_M_manyOf x0 x1 2 h (fun (r3 : Int32) (h2 : xb_H) => xb_ext h h2 → ((r3 ≤ x5 → Qr (-1) h2) ∧ (¬ r3 ≤ x5 → w_M_importAt x0 x1 x5 h2 (fun (r6 : Int32) (h5 : xb_H) => xb_ext h2 h5 → ((¬ r6 = x2 → w_M_importOf_L39 (w_M_importOf_L6 Qr n9) Qr x0 x1 x2 x4 x5 h5) ∧ (r6 = x2 → ((¬ x4 = (0 : Int32) → w_M_importOf_L39 (w_M_importOf_L6 Qr n9) Qr x0 x1 x2 (x4 + (-1)) x5 h5) ∧ (x4 = (0 : Int32) → Qr x5 h5))))))))

def w_M_importOf (x0 : Nat) (x1 : Int32) (x2 : Int32) (x3 : Int32) (h : xb_H) (Qr : Int32 → xb_H → Prop) : Prop :=
    (∃ n8 : Nat, w_M_importOf_L6 Qr n8 x0 x1 x2 x3 0 h)


def w_M_readLocals_L87 (K64 : Nat → Int64 → Int64 → xb_H → Prop) (Qr : xb_H → Prop) : Nat → Nat → Int64 → Int64 → Int64 → Int32 → Int64 → xb_H → Prop
  | 0, _, _, _, _, _, _, _ => False
  | n9 + 1, x0, x4, x6, x8, x10, x11, h =>
    ((x8 ≤ x11 → ∀ v2 : Int64, v2 = (x6 + 1) → K64 x0 x4 v2 h) ∧ (¬ x8 ≤ x11 → xb_k h x0 = 9 ∧ ∃ b4 : Nat, (xb_r h x0 19) = some b4 ∧ xb_k h b4 = 100 ∧ vp_in (xb_i h x0 20) (xb_n h b4) ∧ ∀ h7 : xb_H, h7 = xb_I h b4 (Int32.toNatClampNeg (xb_i h x0 20)) (vp_nar .byte ((Int32.toInt8 x10).toInt32)) → ∀ h8 : xb_H, h8 = xb_I h7 x0 20 ((xb_i h7 x0 20) + 1) → ∀ v9 : Int64, v9 = (x11 + 1) → w_M_readLocals_L87 K64 Qr n9 x0 x4 x6 x8 x10 v9 h8))

def w_M_readLocals_L64 (Qr : xb_H → Prop) : Nat → Nat → Int64 → Int64 → xb_H → Prop
  | 0, _, _, _, _ => False
  | n9 + 1, x0, x4, x6, h =>
    ((x4 ≤ x6 → Qr h) ∧ (¬ x4 ≤ x6 → xb_k h x0 = 9 ∧ w_M_count x0 h (fun (r4 : Int64) (h3 : xb_H) => xb_ext h h3 → w_M_next x0 h3 (fun (r6 : Int32) (h5 : xb_H) => xb_ext h3 h5 → (∃ n8 : Nat, w_M_readLocals_L87 (w_M_readLocals_L64 Qr n9) Qr n8 x0 x4 x6 r4 r6 0 h5)))))

def w_M_readLocals_L18 (Qr : xb_H → Prop) : Nat → Nat → Int32 → Int32 → Int32 → Int32 → xb_H → Prop
  | 0, _, _, _, _, _, _ => False
  | n9 + 1, x0, x1, x2, x3, x4, h =>
    xb_k h x0 = 9 ∧ (((xb_i h x0 20) ≤ x4 → w_M_go x0 x1 x3 h (fun (h3 : xb_H) => xb_ext h h3 → w_M_count x0 h3 (fun (r6 : Int64) (h5 : xb_H) => xb_ext h3 h5 → (∃ n8 : Nat, w_M_readLocals_L64 Qr n8 x0 r6 0 h5)))) ∧ (¬ (xb_i h x0 20) ≤ x4 → ∃ b7 : Nat, (xb_r h x0 19) = some b7 ∧ w_M_parameter x0 x1 x2 x4 h (fun (r9 : Int32) (h8 : xb_H) => xb_ext h h8 → xb_k h8 b7 = 100 ∧ vp_in x4 (xb_n h8 b7) ∧ ∀ h12 : xb_H, h12 = xb_I h8 b7 (Int32.toNatClampNeg x4) (vp_nar .byte ((Int32.toInt8 r9).toInt32)) → w_M_readLocals_L18 Qr n9 x0 x1 x2 x3 (x4 + 1) h12)))

def w_M_readLocals (x0 : Nat) (x1 : Int32) (x2 : Int32) (h : xb_H) (Qr : xb_H → Prop) : Prop :=
    xb_k h x0 = 9 ∧ ∀ v2 : Int32, v2 = (xb_i h x0 15) → w_M_parameters x0 x1 x2 h (fun (r4 : Int32) (h3 : xb_H) => xb_ext h h3 → ∀ h5 : xb_H, h5 = xb_I h3 x0 20 r4 → (∃ n8 : Nat, w_M_readLocals_L18 Qr n8 x0 x1 x2 v2 0 h5))


def w_M_readOn_L67 (K2 : Nat → Int32 → Int32 → xb_H → Prop) (Qr : Int32 → xb_H → Prop) (x0 : Nat) (x2 : Int32) (x3 : Int32) (x4 : Int32) (h : xb_H) : Prop :=
    xb_k h x0 = 9 ∧ w_M_written x0 x4 (xb_i h x0 96) h (fun (h2 : xb_H) => xb_ext h h2 → K2 x0 x2 x3 h2)

def w_M_readOn_L51 (K2 : Nat → Int32 → Int32 → xb_H → Prop) (Qr : Int32 → xb_H → Prop) (x0 : Nat) (x2 : Int32) (x3 : Int32) (x4 : Int32) (h : xb_H) : Prop :=
    ((¬ x4 = (11 : Int32) → w_M_readOn_L67 K2 Qr x0 x2 x3 x4 h) ∧ (x4 = (11 : Int32) → ((¬ (x3 + (-1)) = (0 : Int32) → w_M_readOn_L67 K2 Qr x0 x2 (x3 + (-1)) x4 h) ∧ ((x3 + (-1)) = (0 : Int32) → Qr 0 h))))

def w_M_readOn_L34 (K2 : Nat → Int32 → Int32 → xb_H → Prop) (Qr : Int32 → xb_H → Prop) (x0 : Nat) (x2 : Int32) (x3 : Int32) (x4 : Int32) (h : xb_H) : Prop :=
    ((¬ x4 = (5 : Int32) → w_M_readOn_L51 K2 Qr x0 x2 x3 x4 h) ∧ (x4 = (5 : Int32) → ((x2 = (0 : Int32) → w_M_readOn_L51 K2 Qr x0 x2 x3 x4 h) ∧ (¬ x2 = (0 : Int32) → ((¬ x3 = (1 : Int32) → w_M_readOn_L51 K2 Qr x0 x2 x3 x4 h) ∧ (x3 = (1 : Int32) → Qr 1 h))))))

def w_M_readOn_L2 (Qr : Int32 → xb_H → Prop) : Nat → Nat → Int32 → Int32 → xb_H → Prop
  | 0, _, _, _, _ => False
  | n9 + 1, x0, x2, x3, h =>
    xb_k h x0 = 9 ∧ ∀ h2 : xb_H, h2 = xb_I h x0 96 (xb_i h x0 15) → w_M_next x0 h2 (fun (r4 : Int32) (h3 : xb_H) => xb_ext h2 h3 → ((r4 < (2 : Int32) → w_M_readOn_L34 (w_M_readOn_L2 Qr n9) Qr x0 x2 x3 r4 h3) ∧ (¬ r4 < (2 : Int32) → (((4 : Int32) < r4 → w_M_readOn_L34 (w_M_readOn_L2 Qr n9) Qr x0 x2 x3 r4 h3) ∧ (¬ (4 : Int32) < r4 → w_M_readOn_L67 (w_M_readOn_L2 Qr n9) Qr x0 x2 (x3 + 1) r4 h3)))))

def w_M_readOn (x0 : Nat) (x1 : Int32) (x2 : Int32) (h : xb_H) (Qr : Int32 → xb_H → Prop) : Prop :=
    (∃ n8 : Nat, w_M_readOn_L2 Qr n8 x0 x2 x1 h)


def w_M_sameType_L91 (Qr : Int32 → xb_H → Prop) (x6 : Int32) (h : xb_H) : Prop :=
    (x6 = 0 ∨ x6 = 1) ∧ Qr x6 h

def w_M_sameType_L83 (K46 : Nat → Int32 → Int32 → Int32 → Int32 → Int32 → Int32 → Int32 → xb_H → Prop) (Qr : Int32 → xb_H → Prop) (x0 : Nat) (x1 : Int32) (x2 : Int32) (x3 : Int32) (x4 : Int32) (x5 : Int32) (x7 : Int32) (y0 : Int32) (h : xb_H) : Prop :=
    K46 x0 x1 x2 x3 x4 x5 y0 (x7 + 1) h

def w_M_sameType_L46 (Qr : Int32 → xb_H → Prop) : Nat → Nat → Int32 → Int32 → Int32 → Int32 → Int32 → Int32 → Int32 → xb_H → Prop
  | 0, _, _, _, _, _, _, _, _, _ => False
  | n9 + 1, x0, x1, x2, x3, x4, x5, x6, x7, h =>
    ((x5 ≤ x7 → w_M_sameType_L91 Qr x6 h) ∧ (¬ x5 ≤ x7 → ((x6 = (0 : Int32) → w_M_sameType_L91 Qr x6 h) ∧ (¬ x6 = (0 : Int32) → xb_k h x0 = 9 ∧ w_M_parameter x0 x1 x2 x7 h (fun (r5 : Int32) (h4 : xb_H) => xb_ext h h4 → w_M_parameter x0 x3 x4 x7 h4 (fun (r7 : Int32) (h6 : xb_H) => xb_ext h4 h6 → ((¬ r5 = r7 → w_M_sameType_L83 (w_M_sameType_L46 Qr n9) Qr x0 x1 x2 x3 x4 x5 x7 0 h6) ∧ (r5 = r7 → w_M_sameType_L83 (w_M_sameType_L46 Qr n9) Qr x0 x1 x2 x3 x4 x5 x7 1 h6))))))))

def w_M_sameType_L41 (Qr : Int32 → xb_H → Prop) (x0 : Nat) (x1 : Int32) (x2 : Int32) (x3 : Int32) (x4 : Int32) (x5 : Int32) (y0 : Int32) (h : xb_H) : Prop :=
    (∃ n8 : Nat, w_M_sameType_L46 Qr n8 x0 x1 x2 x3 x4 x5 y0 0 h)

def w_M_sameType_L40 (Qr : Int32 → xb_H → Prop) (x0 : Nat) (x1 : Int32) (x2 : Int32) (x3 : Int32) (x4 : Int32) (x5 : Int32) (h : xb_H) : Prop :=
    w_M_sameType_L41 Qr x0 x1 x2 x3 x4 x5 0 h

def w_M_sameType (x0 : Nat) (x1 : Int32) (x2 : Int32) (x3 : Int32) (x4 : Int32) (h : xb_H) (Qr : Int32 → xb_H → Prop) : Prop :=
    xb_k h x0 = 9 ∧ w_M_parameters x0 x1 x2 h (fun (r3 : Int32) (h2 : xb_H) => xb_ext h h2 → w_M_parameters x0 x3 x4 h2 (fun (r5 : Int32) (h4 : xb_H) => xb_ext h2 h4 → ((¬ r3 = r5 → w_M_sameType_L40 Qr x0 x1 x2 x3 x4 r3 h4) ∧ (r3 = r5 → w_M_resultOf x0 x1 x2 h4 (fun (r8 : Int32) (h7 : xb_H) => xb_ext h4 h7 → w_M_resultOf x0 x3 x4 h7 (fun (r10 : Int32) (h9 : xb_H) => xb_ext h7 h9 → ((¬ r8 = r10 → w_M_sameType_L40 Qr x0 x1 x2 x3 x4 r3 h9) ∧ (r8 = r10 → w_M_sameType_L41 Qr x0 x1 x2 x3 x4 r3 1 h9))))))))


def w_M_takeParameters_L38 (Qr : xb_H → Prop) (h : xb_H) : Prop :=
    Qr h

def w_M_takeParameters_L9 (Qr : xb_H → Prop) : Nat → Nat → Int32 → Int32 → Int32 → xb_H → Prop
  | 0, _, _, _, _, _ => False
  | n9 + 1, x0, x1, x2, x3, h =>
    ((x3 < (0 : Int32) → w_M_takeParameters_L38 Qr h) ∧ (¬ x3 < (0 : Int32) → xb_k h x0 = 9 ∧ ((¬ (xb_i h x0 17) = (0 : Int32) → w_M_takeParameters_L38 Qr h) ∧ ((xb_i h x0 17) = (0 : Int32) → w_M_parameter x0 x1 x2 x3 h (fun (r5 : Int32) (h4 : xb_H) => xb_ext h h4 → w_M_take x0 r5 h4 (fun (r7 : Int32) (h6 : xb_H) => xb_ext h4 h6 → w_M_takeParameters_L9 Qr n9 x0 x1 x2 (x3 + (-1)) h6))))))

def w_M_takeParameters (x0 : Nat) (x1 : Int32) (x2 : Int32) (h : xb_H) (Qr : xb_H → Prop) : Prop :=
    xb_k h x0 = 9 ∧ w_M_parameters x0 x1 x2 h (fun (r3 : Int32) (h2 : xb_H) => xb_ext h h2 → ∀ v4 : Int32, v4 = (r3 - 1) → (∃ n8 : Nat, w_M_takeParameters_L9 Qr n8 x0 x1 x2 v4 h2))


def w_Exact_answer_L227 (Qr : Int64 → xb_H → Prop) (y0 : Int64) (h : xb_H) : Prop :=
    Qr y0 h

def w_Exact_answer_L213 (Qr : Int64 → xb_H → Prop) (x2 : Int64) (x4 : Int64) (y0 : Int32) (y1 : Int32) (h : xb_H) : Prop :=
    w_Exact_isSo y1 y0 x2 x4 h (fun (r2 : Int32) (h1 : xb_H) => xb_ext h h1 → ((r2 = (0 : Int32) → w_Exact_answer_L227 Qr 0 h1) ∧ (¬ r2 = (0 : Int32) → w_Exact_answer_L227 Qr 1 h1)))

def w_Exact_answer_L199 (Qr : Int64 → xb_H → Prop) (x1 : Int32) (x2 : Int64) (x4 : Int64) (y0 : Int32) (y1 : Int32) (h : xb_H) : Prop :=
    (((80 : Int32) ≤ x1 → w_Exact_answer_L213 Qr x2 x4 64 (y1 - y0) h) ∧ (¬ (80 : Int32) ≤ x1 → w_Exact_answer_L213 Qr x2 x4 32 (y1 - y0) h))

def w_Exact_answer_L184 (Qr : Int64 → xb_H → Prop) (y0 : Int64) (h : xb_H) : Prop :=
    Qr y0 h

def w_Exact_answer_L173 (Qr : Int64 → xb_H → Prop) (x2 : Int64) (h : xb_H) : Prop :=
    ((¬ x2 = (0 : Int64) → w_Exact_answer_L184 Qr 0 h) ∧ (x2 = (0 : Int64) → w_Exact_answer_L184 Qr 1 h))

def w_Exact_answer_L160 (Qr : Int64 → xb_H → Prop) (y0 : Int64) (h : xb_H) : Prop :=
    Qr y0 h

def w_Exact_answer_L145 (Qr : Int64 → xb_H → Prop) (x2 : Int64) (x4 : Int64) (y0 : Int32) (y1 : Int32) (y2 : Nat) (h : xb_H) : Prop :=
    xb_k h y2 = 10 ∧ w_Exact_compared y2 (y1 - y0) x2 x4 h (fun (r3 : Int32) (h2 : xb_H) => xb_ext h h2 → ((r3 = (0 : Int32) → w_Exact_answer_L160 Qr 0 h2) ∧ (¬ r3 = (0 : Int32) → w_Exact_answer_L160 Qr 1 h2)))

def w_Exact_answer_L127 (Qr : Int64 → xb_H → Prop) (x0 : Nat) (x1 : Int32) (x2 : Int64) (x4 : Int64) (y0 : Int32) (y1 : Nat) (h : xb_H) : Prop :=
    xb_k h y1 = 10 ∧ w_Exact_format y1 y0 h (fun (h2 : xb_H) => xb_ext h h2 → (((97 : Int32) ≤ x1 → w_Exact_answer_L145 Qr x2 x4 97 x1 x0 h2) ∧ (¬ (97 : Int32) ≤ x1 → w_Exact_answer_L145 Qr x2 x4 91 x1 x0 h2)))

def w_Exact_answer_L106 (Qr : Int64 → xb_H → Prop) (y0 : Int64) (h : xb_H) : Prop :=
    Qr y0 h

def w_Exact_answer_L57 (Qr : Int64 → xb_H → Prop) (x2 : Int64) (x4 : Int64) (y0 : Int32) (y1 : Int32) (y2 : Nat) (h : xb_H) : Prop :=
    xb_k h y2 = 10 ∧ w_Exact_floated y2 (y1 - y0) x2 x4 h (fun (r3 : Int64) (h2 : xb_H) => xb_ext h h2 → Qr r3 h2)

def w_Exact_answer_L36 (Qr : Int64 → xb_H → Prop) (x0 : Nat) (x1 : Int32) (x2 : Int64) (x4 : Int64) (y0 : Int32) (y1 : Nat) (h : xb_H) : Prop :=
    xb_k h y1 = 10 ∧ w_Exact_format y1 y0 h (fun (h2 : xb_H) => xb_ext h h2 → (((153 : Int32) ≤ x1 → w_Exact_answer_L57 Qr x2 x4 153 x1 x0 h2) ∧ (¬ (153 : Int32) ≤ x1 → w_Exact_answer_L57 Qr x2 x4 139 x1 x0 h2)))

def w_Exact_answer (x0 : Nat) (x1 : Int32) (x2 : Int64) (x4 : Int64) (h : xb_H) (Qr : Int64 → xb_H → Prop) : Prop :=
    ((x1 < (167 : Int32) → ((x1 < (139 : Int32) → ((x1 < (103 : Int32) → ((x1 < (91 : Int32) → ((x1 = (69 : Int32) → w_Exact_answer_L173 Qr x2 h) ∧ (¬ x1 = (69 : Int32) → ((¬ x1 = (80 : Int32) → (((80 : Int32) ≤ x1 → w_Exact_answer_L199 Qr x1 x2 x4 81 x1 h) ∧ (¬ (80 : Int32) ≤ x1 → w_Exact_answer_L199 Qr x1 x2 x4 70 x1 h))) ∧ (x1 = (80 : Int32) → w_Exact_answer_L173 Qr x2 h))))) ∧ (¬ x1 < (91 : Int32) → (((97 : Int32) ≤ x1 → w_Exact_answer_L127 Qr x0 x1 x2 x4 64 x0 h) ∧ (¬ (97 : Int32) ≤ x1 → w_Exact_answer_L127 Qr x0 x1 x2 x4 32 x0 h))))) ∧ (¬ x1 < (103 : Int32) → (((121 : Int32) ≤ x1 → xb_k h x0 = 10 ∧ w_Exact_reckoned x0 (x1 - 121) 64 x2 x4 h (fun (r12 : Int64) (h11 : xb_H) => xb_ext h h11 → w_Exact_answer_L106 Qr r12 h11)) ∧ (¬ (121 : Int32) ≤ x1 → xb_k h x0 = 10 ∧ w_Exact_reckoned x0 (x1 - 103) 32 x2 x4 h (fun (r15 : Int64) (h14 : xb_H) => xb_ext h h14 → w_Exact_answer_L106 Qr r15 h14)))))) ∧ (¬ x1 < (139 : Int32) → (((153 : Int32) ≤ x1 → w_Exact_answer_L36 Qr x0 x1 x2 x4 64 x0 h) ∧ (¬ (153 : Int32) ≤ x1 → w_Exact_answer_L36 Qr x0 x1 x2 x4 32 x0 h))))) ∧ (¬ x1 < (167 : Int32) → xb_k h x0 = 10 ∧ w_Exact_turnedInto x0 x1 x2 h (fun (r19 : Int64) (h18 : xb_H) => xb_ext h h18 → Qr r19 h18)))


