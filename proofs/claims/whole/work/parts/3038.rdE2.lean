-- the reader: shapes, labels, block types, ends
theorem sp_Reader_shapeOf {x : Int32} {h : xb_H} {Qr : Int32 → xb_H → Prop} (h0 : 0 ≤ x.toInt) (hQ : ∀ r : Int32, r.toInt = wk_sh x.toInt → Qr r h) : w_Reader_shapeOf x h Qr := by
  have r := z_rg x
  unfold w_Reader_shapeOf w_Reader_shapeOf_L233 w_Reader_shapeOf_L226 w_Reader_shapeOf_L224 w_Reader_shapeOf_L218 w_Reader_shapeOf_L216 w_Reader_shapeOf_L53 w_Reader_shapeOf_L19
  refine ⟨fun h1 => ⟨fun h2 => ⟨fun h3 => ?_, fun h3 => ⟨fun h4 => hQ 7 ?_, fun h4 => hQ 8 ?_⟩⟩, fun h2 => hQ _ ?_⟩, fun h1 => ⟨fun h2 => hQ 13 ?_, fun h2 => hQ 0 ?_⟩⟩
  · and_intros
    all_goals first
      | (intro e; subst e; exact hQ _ (by decide))
      | skip
    intro a0 a1 a2 a3 a4 a5 a6 a7 a8 a9 a10 a11 a12 a13 a14 a15 a16 a17 a18 a19 a20 a21 a22 a23 a24 a25 a26 a27 a28 a29 a30 a31 a32 a33 a34 a35 a36
    refine hQ 13 ?_
    rw [z_lt] at h3
    rw [z_eq] at a0 a1 a2 a3 a4 a5 a11 a12 a13 a14 a15 a16 a17 a26 a27 a32 a33 a34 a35 a36
    simp at h3 a0 a1 a2 a3 a4 a5 a11 a12 a13 a14 a15 a16 a17 a26 a27 a32 a33 a34 a35 a36
    unfold wk_sh
    repeat rw [if_neg (by omega)]
    rfl
  all_goals simp only [z_lt] at *
  all_goals simp only [Int32.reduceToInt] at *
  · unfold wk_sh
    rw [if_neg (by omega), if_neg (by omega), if_pos (by omega), if_neg (by omega)]
    rfl
  · unfold wk_sh
    rw [if_neg (by omega), if_neg (by omega), if_pos (by omega), if_pos (by omega)]
    rfl
  · unfold wk_sh
    rw [if_neg (by omega), if_pos (by omega), z_add, z_sub]
    simp only [Int32.reduceToInt]
    omega
  · unfold wk_sh
    rw [if_pos (by omega), if_neg (by omega)]
    rfl
  · unfold wk_sh
    rw [if_pos (by omega), if_pos (by omega)]
    rfl
section RD4
variable {h0 h : xb_H} {rd op md cd nt N rc rs : Nat} {Qt : String → xb_H → Nat → Nat → Prop} {a l : Int} {bc bs : Nat} {f : Nat → Int32}
theorem sp_Reader_readBlockType {v : Int32} {ν : Nat → Int32} {Qr : xb_H → Nat → Nat → Prop} (hT : rd_T h0 rd op md rc rs Qt) (hX : rd_X h0 h rd op md) (hs : rd_s h rd md cd N a l) (hn : rd_n h0 h rd nt op N) (hc : rc + 1 ≤ bc) (hb : rs + 6 ≤ bs) (h1 : 0 ≤ v.toInt) (h2 : v.toInt ≤ l) (hby : ∀ j, -128 ≤ (xb_i h cd j).toInt ∧ (xb_i h cd j).toInt ≤ 127) (hcd : cd ≠ nt ∧ cd ≠ op ∧ cd ≠ rd)
    (hQ : ∀ v' : Int32, v'.toInt = v.toInt + 1 → v.toInt < l → ((xb_i h cd v.toInt.toNat).toInt = 64 ∨ 124 ≤ (xb_i h cd v.toInt.toNat).toInt ∧ (xb_i h cd v.toInt.toNat).toInt ≤ 127) → Qr (rd_E h rd nt op v' ν f) bc bs) : w_Reader_readBlockType rd (rd_E h rd nt op v ν f) bc bs Qr Qt := by
  obtain ⟨k1, k2, k3, k4, k5, k6, k7, k8, k9, k10, k11, k12⟩ := id hs
  obtain ⟨n1, n2, n3, n4, n5, n6, n7, n8, n9, n10⟩ := id hn
  unfold w_Reader_readBlockType w_Reader_readBlockType_L23 w_Reader_readBlockType_L37
  refine ⟨k1, sp_Reader_nextByte hT (hX.E hn) (hs.E hn h1 h2) hc hb (fun v' g1 g2 _ => ?_)⟩
  rw [rdE_at n8 n9, rdE_io hcd.2.2 hcd.1 hcd.2.1]
  have hy := hby v.toInt.toNat
  have e := z_255 (xb_i h cd v.toInt.toNat)
  have hf : xb_k (rd_E h rd nt op v' ν f) rd = 4 ∧ ∃ b2 : Nat, xb_r (rd_E h rd nt op v' ν f) rd 0 = some b2 ∧ xb_k (rd_E h rd nt op v' ν f) b2 = 3 ∧ w_StackModule_fail b2 5 (xb_i (rd_E h rd nt op v' ν f) rd 3 - 1) (rd_E h rd nt op v' ν f) bc bs (fun (h4 : xb_H) (bc5 bs5 : Nat) => xb_ext (rd_E h rd nt op v' ν f) h4 → Qr h4 bc5 bs5) Qt := ⟨k1, md, k2, k3, sp_fail hT (hX.E hn) hc hb⟩
  refine ⟨fun g3 => hQ v' g1 g2 ?_, fun g3 => ⟨fun g4 => hf, fun g4 => ⟨fun g5 => hQ v' g1 g2 ?_, fun g5 => hf⟩⟩⟩
  · rw [z_eq, e] at g3
    simp only [Int32.reduceToInt] at g3
    omega
  · rw [z_lt, e] at g4
    rw [z_le, e] at g5
    simp only [Int32.reduceToInt] at g4 g5
    omega
theorem sp_Reader_readLabels_L16 {p : Nat} {x1 x2 : Int32} {ν0 : Nat → Int32} {Qr : xb_H → Nat → Nat → Prop} (hT : rd_T h0 rd op md rc rs Qt) (hX : rd_X h0 h rd op md) (hs : rd_s h rd md cd N a l) (hn : rd_n h0 h rd nt op N) (hc : rc + 1 ≤ bc) (hb : rs + 6 ≤ bs) (hp : x1.toInt = p)
    (hQ : ∀ (q : Nat) (v' : Int32) (ν' : Nat → Int32), v'.toInt = q → (q : Int) ≤ l → rd_op 5 p q ν0 ν' → Qr (rd_E h rd nt op v' ν' f) bc bs) :
    ∀ (m : Nat) (x3 : Int64) (v : Int32) (ν : Nat → Int32), 0 ≤ x3.toInt → x3.toInt ≤ x2.toInt % 4294967296 + 1 → (p : Int) + 2 + x3.toInt ≤ v.toInt → v.toInt ≤ l → l - v.toInt ≤ m → ν (p + 1) = x2 → (∀ j, j < p → ν j = ν0 j) → (∀ j : Nat, v.toInt ≤ j → ν j = ν0 j) → w_Reader_readLabels_L16 Qr Qt (m + 1) rd x1 x2 x3 (rd_E h rd nt op v ν f) bc bs
  | m, x3, v, ν, g1, g2, g3, g4, g5, g6, g7, g8 => by
    obtain ⟨k1, k2, k3, k4, k5, k6, k7, k8, k9, k10, k11, k12⟩ := id hs
    obtain ⟨n1, n2, n3, n4, n5, n6, n7, n8, n9, n10⟩ := id hn
    have r2 := z_rg x2
    have c0 : x1.toNatClampNeg = p := by rw [z_cl, hp]; omega
    have eL : (x2.toInt64 &&& 4294967295).toInt = x2.toInt % 4294967296 := by rw [Z_low, Z_of32]
    unfold w_Reader_readLabels_L16
    refine ⟨fun e1 => ⟨k1, nt, n1, n2, by rw [z_in, hp, rdE_n, n3]; omega, fun h6 e6 => ?_⟩, fun e1 => ⟨k1, ?_⟩⟩
    · rw [Z_lt, eL] at e1
      rw [c0, rdE_nt n8 n10, rdE_iat n8 n9] at e6
      subst e6
      refine hQ v.toInt.toNat v _ (by omega) (by omega) ⟨fun j hj => ?_, fun j hj => ?_, ?_, by omega, fun _ => ?_, by omega, by omega⟩
      · rw [xh_up, if_neg (by omega)]; exact g7 j hj
      · rw [xh_up, if_neg (by omega)]; exact g8 j (by omega)
      · rw [xh_up, if_pos rfl]; omega
      · rw [xh_up, if_neg (by omega), g6]
        omega
    · rw [Z_lt, eL] at e1
      refine sp_Reader_count hT (hX.E hn) (hs.E hn (by omega) g4) hc hb (fun u v' f1 f2 _ => ?_)
      rw [rdE_at n8 n9]
      have b3 : 0 ≤ x3.toInt ∧ x3.toInt ≤ 65536 ∧ p ≤ 65536 := by omega
      have e3a : (x1 + 2).toInt = p + 2 := by
        rw [z_add, hp]
        simp only [Int32.reduceToInt]
        omega
      have e3b : x3.toInt32.toInt = x3.toInt := by
        rw [z_of64]
        omega
      have e3 : (x1 + 2 + x3.toInt32).toInt = p + 2 + x3.toInt := by
        rw [z_add, e3a, e3b]
        omega
      have c3 : (x1 + 2 + x3.toInt32).toNatClampNeg = p + 2 + x3.toInt.toNat := by rw [z_cl, e3]; omega
      have e4 : (x3 + 1).toInt = x3.toInt + 1 := by
        rw [Z_add]
        simp only [Int64.reduceToInt]
        clear g8 g7 hQ
        omega
      refine ⟨nt, n1, n2, by rw [z_in, e3, rdE_n, n3]; omega, fun h14 e14 v15 e15 => ?_⟩
      rw [c3, rdE_nt n8 n10] at e14
      subst e14
      subst e15
      match m, g5 with
      | 0, g5 => omega
      | m + 1, g5 =>
        refine sp_Reader_readLabels_L16 hT hX hs hn hc hb hp hQ m (x3 + 1) v' _ (by omega) (by omega) (by omega) f2 (by omega) ?_ (fun j hj => ?_) (fun j hj => ?_)
        · rw [xh_up, if_neg (by omega)]; exact g6
        · rw [xh_up, if_neg (by omega)]; exact g7 j hj
        · rw [xh_up, if_neg (by omega)]; exact g8 j (by omega)
theorem sp_Reader_readLabels {p : Nat} {x1 v : Int32} {ν : Nat → Int32} {Qr : xb_H → Nat → Nat → Prop} (hT : rd_T h0 rd op md rc rs Qt) (hX : rd_X h0 h rd op md) (hs : rd_s h rd md cd N a l) (hn : rd_n h0 h rd nt op N) (hc : rc + 1 ≤ bc) (hb : rs + 6 ≤ bs) (hp : x1.toInt = p) (hv : v.toInt = p + 1) (hl : v.toInt ≤ l)
    (hQ : ∀ (q : Nat) (v' : Int32) (ν' : Nat → Int32), v'.toInt = q → (q : Int) ≤ l → rd_op 5 p q ν ν' → Qr (rd_E h rd nt op v' ν' f) bc bs) : w_Reader_readLabels rd x1 (rd_E h rd nt op v ν f) bc bs Qr Qt := by
  obtain ⟨k1, k2, k3, k4, k5, k6, k7, k8, k9, k10, k11, k12⟩ := id hs
  obtain ⟨n1, n2, n3, n4, n5, n6, n7, n8, n9, n10⟩ := id hn
  have r1 := z_rg x1
  have e1 : (x1 + 1).toInt = p + 1 := by rw [z_add, hp]; simp only [Int32.reduceToInt]; omega
  have c1 : (x1 + 1).toNatClampNeg = p + 1 := by rw [z_cl, e1]; omega
  unfold w_Reader_readLabels
  refine ⟨k1, sp_Reader_count hT (hX.E hn) (hs.E hn (by omega) hl) hc hb (fun u v' g1 g2 _ => ?_)⟩
  rw [rdE_at n8 n9]
  refine ⟨nt, n1, n2, by rw [z_in, e1, rdE_n, n3]; omega, fun h8 e8 => ⟨(l - v'.toInt).toNat + 1, ?_⟩⟩
  rw [c1, rdE_nt n8 n10] at e8
  subst e8
  have ru := z_rg u
  refine sp_Reader_readLabels_L16 hT hX hs hn hc hb hp hQ _ 0 v' _ (by simp) (by simp only [Int64.reduceToInt]; omega) (by simp only [Int64.reduceToInt]; omega) g2 (by omega) ?_ (fun j hj => ?_) (fun j hj => ?_)
  · rw [xh_up, if_pos rfl]
  · rw [xh_up, if_neg (by omega)]
  · rw [xh_up, if_neg (by omega)]
end RD4
