-- the reader in an instruction list: only its place, the notes and what is open change
def rd_E (h : xb_H) (rd nt op : Nat) (v : Int32) (ν f : Nat → Int32) : xb_H := xb_Ia (xb_Ia (xb_I h rd 3 v) nt ν) op f
theorem xh_ext3 {h : xb_H} {F G : Nat → Nat → Int32} (e : ∀ a, F a = G a) : ((h.1, h.2.1, F, h.2.2.2.1, h.2.2.2.2) : xb_H) = (h.1, h.2.1, G, h.2.2.2.1, h.2.2.2.2) := by
  rw [show F = G from funext e]
section RDE
variable {h : xb_H} {rd nt op : Nat} {v w : Int32} {ν f : Nat → Int32}
theorem rdE_at (h1 : rd ≠ nt) (h2 : rd ≠ op) : xb_I (rd_E h rd nt op v ν f) rd 3 w = rd_E h rd nt op w ν f := by
  unfold rd_E xb_I xb_Ia
  refine xh_ext3 (fun a => ?_)
  dsimp only [xb_i]
  simp only [va_up]
  by_cases e1 : a = rd
  · subst e1
    simp only [if_pos, if_neg h1, if_neg h2]
    rw [bx_uu]
  · simp only [if_neg e1]
theorem rdE_nt (h1 : rd ≠ nt) (h3 : nt ≠ op) {k : Nat} : xb_I (rd_E h rd nt op v ν f) nt k w = rd_E h rd nt op v (va_up ν k w) f := by
  unfold rd_E xb_I xb_Ia
  refine xh_ext3 (fun a => ?_)
  dsimp only [xb_i]
  simp only [va_up]
  by_cases e1 : a = nt
  · subst e1
    simp only [if_pos, if_neg h3]
  · simp only [if_neg e1]
theorem rdE_op {k : Nat} : xb_I (rd_E h rd nt op v ν f) op k w = rd_E h rd nt op v ν (va_up f k w) := by
  unfold rd_E xb_I xb_Ia
  refine xh_ext3 (fun a => ?_)
  dsimp only [xb_i]
  simp only [va_up]
  by_cases e1 : a = op
  · subst e1
    simp only [if_pos]
  · simp only [if_neg e1]
theorem rdE_self (h1 : rd ≠ nt) (h2 : rd ≠ op) (h3 : nt ≠ op) : rd_E h rd nt op (xb_i h rd 3) (xb_i h nt) (xb_i h op) = h := by
  unfold rd_E xb_I xb_Ia
  show ((h.1, h.2.1, _, h.2.2.2.1, h.2.2.2.2) : xb_H) = (h.1, h.2.1, h.2.2.1, h.2.2.2.1, h.2.2.2.2)
  refine xh_ext3 (fun a => ?_)
  dsimp only [xb_i]
  simp only [va_up]
  by_cases e1 : a = op
  · subst e1
    rw [if_pos rfl]
  · rw [if_neg e1]
    by_cases e2 : a = nt
    · subst e2
      rw [if_pos rfl]
    · rw [if_neg e2]
      by_cases e3 : a = rd
      · subst e3
        rw [if_pos rfl]
        funext k
        rw [xh_up]
        split
        · rename_i e
          rw [e]
        · rfl
      · rw [if_neg e3]
theorem rdE_iat (h1 : rd ≠ nt) (h2 : rd ≠ op) : xb_i (rd_E h rd nt op v ν f) rd 3 = v := by
  unfold rd_E
  rw [xh_iIa, if_neg h2, xh_iIa, if_neg h1, xh_iI, if_pos rfl, xh_up, if_pos rfl]
theorem rdE_ilim (h1 : rd ≠ nt) (h2 : rd ≠ op) : xb_i (rd_E h rd nt op v ν f) rd 4 = xb_i h rd 4 := by
  unfold rd_E
  rw [xh_iIa, if_neg h2, xh_iIa, if_neg h1, xh_iI, if_pos rfl, xh_up, if_neg (by omega)]
theorem rdE_int (h3 : nt ≠ op) : xb_i (rd_E h rd nt op v ν f) nt = ν := by
  unfold rd_E
  rw [xh_iIa, if_neg h3, xh_iIa, if_pos rfl]
theorem rdE_iop : xb_i (rd_E h rd nt op v ν f) op = f := by
  unfold rd_E
  rw [xh_iIa, if_pos rfl]
theorem rdE_io {b : Nat} (h1 : b ≠ rd) (h2 : b ≠ nt) (h3 : b ≠ op) : xb_i (rd_E h rd nt op v ν f) b = xb_i h b := by
  unfold rd_E
  rw [xh_iIa, if_neg h3, xh_iIa, if_neg h2, xh_iI, if_neg h1]
theorem rdE_k : xb_k (rd_E h rd nt op v ν f) = xb_k h := rfl
theorem rdE_n : xb_n (rd_E h rd nt op v ν f) = xb_n h := rfl
theorem rdE_r : xb_r (rd_E h rd nt op v ν f) = xb_r h := rfl
theorem rdE_l : xb_l (rd_E h rd nt op v ν f) = xb_l h := rfl
end RDE
/-- where the notes and the open things lie -/
def rd_n (h0 h : xb_H) (rd nt op N : Nat) : Prop :=
  xb_r h rd 2 = some nt ∧ xb_k h nt = 102 ∧ xb_n h nt = N ∧ xb_r h rd 5 = some op ∧ xb_k h op = 102 ∧ xb_n h op = 200 ∧ xb_k h0 nt = 0 ∧ rd ≠ nt ∧ rd ≠ op ∧ nt ≠ op
theorem rd_X.E {h0 h : xb_H} {rd op md nt N : Nat} {v : Int32} {ν f : Nat → Int32} (hX : rd_X h0 h rd op md) (hn : rd_n h0 h rd nt op N) : rd_X h0 (rd_E h rd nt op v ν f) rd op md := by
  obtain ⟨h1, h2, h3, h4, h5, h6, h7, h8⟩ := hX
  refine ⟨h1, fun b hb h9 h10 => (h2 b hb h9 h10).tr ⟨rdE_io h9 ?_ h10, rfl, rfl⟩, h3, h4, h5, h6, h7, h8⟩
  exact fun e => hb (e ▸ hn.2.2.2.2.2.2.1)
theorem rd_s.E {h0 h : xb_H} {rd md cd nt op N : Nat} {a l : Int} {v : Int32} {ν f : Nat → Int32} (hs : rd_s h rd md cd N a l) (hn : rd_n h0 h rd nt op N) (h1 : 0 ≤ v.toInt) (h2 : v.toInt ≤ l) : rd_s (rd_E h rd nt op v ν f) rd md cd N v.toInt l := by
  obtain ⟨k1, k2, k3, k4, k5, k6, k7, k8, k9, k10, k11, k12⟩ := hs
  obtain ⟨-, -, -, -, -, -, -, n1, n2, n3⟩ := hn
  exact ⟨k1, k2, k3, k4, k5, k6, by rw [rdE_iat n1 n2], by rw [rdE_ilim n1 n2]; exact k8, h1, h2, k11, k12⟩
theorem rd_n.E {h0 h : xb_H} {rd nt op N : Nat} {v : Int32} {ν f : Nat → Int32} (hn : rd_n h0 h rd nt op N) : rd_n h0 (rd_E h rd nt op v ν f) rd nt op N := hn
/-- what an instruction at p that ends ahead of q leaves in the notes -/
def rd_op (s p q : Nat) (ν ν' : Nat → Int32) : Prop := (∀ j, j < p → ν' j = ν j) ∧ (∀ j, q ≤ j → ν' j = ν j) ∧ (ν' p).toInt = q ∧ wk_op ν' s p q
section RD3
variable {h0 h : xb_H} {rd op md cd nt N rc rs : Nat} {Qt : String → xb_H → Nat → Nat → Prop} {a l : Int} {bc bs : Nat} {f : Nat → Int32}
theorem sp_Reader_noteLong {p : Nat} {x1 v : Int32} {x2 : Int64} {ν : Nat → Int32} {Qr : xb_H → Prop} (hs : rd_s h rd md cd N a l) (hn : rd_n h0 h rd nt op N) (hp : x1.toInt = p) (hv : (p : Int) + 2 ≤ v.toInt) (hl : v.toInt ≤ l)
    (hQ : ∀ ν' : Nat → Int32, (∀ j, j ≤ p → ν' j = ν j) → (∀ j : Nat, v.toInt ≤ j → ν' j = ν j) → Qr (rd_E h rd nt op v ν' f)) : w_Reader_noteLong rd x1 x2 (rd_E h rd nt op v ν f) Qr := by
  obtain ⟨k1, k2, k3, k4, k5, k6, k7, k8, k9, k10, k11, k12⟩ := id hs
  obtain ⟨n1, n2, n3, n4, n5, n6, n7, n8, n9, n10⟩ := id hn
  have r1 := z_rg x1
  have e1 : (x1 + 1).toInt = p + 1 := by rw [z_add, hp]; simp only [Int32.reduceToInt]; omega
  have e2 : (x1 + 2).toInt = p + 2 := by rw [z_add, hp]; simp only [Int32.reduceToInt]; omega
  have c1 : (x1 + 1).toNatClampNeg = p + 1 := by rw [z_cl, e1]; omega
  have c2 : (x1 + 2).toNatClampNeg = p + 2 := by rw [z_cl, e2]; omega
  unfold w_Reader_noteLong w_Reader_noteLong_L33
  refine ⟨k1, nt, n1, n2, by rw [z_in, e1, rdE_n, n3]; omega, fun h5 e5 => ?_⟩
  rw [c1, rdE_nt n8 n10] at e5
  subst e5
  rw [rdE_iat n8 n9]
  refine ⟨fun _ => hQ _ (fun j hj => ?_) (fun j hj => ?_), fun h6 => ⟨nt, n1, n2, by rw [z_le, e2] at h6; rw [z_in, e2, rdE_n, n3]; omega, fun h10 e10 => ?_⟩⟩
  · rw [xh_up, if_neg (by omega)]
  · rw [xh_up, if_neg (by omega)]
  · rw [z_le, e2] at h6
    rw [c2, rdE_nt n8 n10] at e10
    subst e10
    refine hQ _ (fun j hj => ?_) (fun j hj => ?_)
    · rw [xh_up, if_neg (by omega), xh_up, if_neg (by omega)]
    · rw [xh_up, if_neg (by omega), xh_up, if_neg (by omega)]
theorem sp_Reader_readOperands {s p : Nat} {x1 x2 v : Int32} {ν : Nat → Int32} {Qr : xb_H → Nat → Nat → Prop} (hT : rd_T h0 rd op md rc rs Qt) (hX : rd_X h0 h rd op md) (hs : rd_s h rd md cd N a l) (hn : rd_n h0 h rd nt op N) (hc : rc + 1 ≤ bc) (hb : rs + 6 ≤ bs)
    (h1 : x1.toInt = s) (h2 : x2.toInt = p) (hv : v.toInt = p + 1) (hl : v.toInt ≤ l) (hs5 : s ≠ 5)
    (hQ : ∀ (q : Nat) (v' : Int32) (ν' : Nat → Int32), v'.toInt = q → (q : Int) ≤ l → rd_op s p q ν ν' → Qr (rd_E h rd nt op v' ν' f) bc bs) : w_Reader_readOperands rd x1 x2 (rd_E h rd nt op v ν f) bc bs Qr Qt := by
  obtain ⟨k1, k2, k3, k4, k5, k6, k7, k8, k9, k10, k11, k12⟩ := id hs
  obtain ⟨n1, n2, n3, n4, n5, n6, n7, n8, n9, n10⟩ := id hn
  have r1 := z_rg x2
  have e1 : (x2 + 1).toInt = p + 1 := by rw [z_add, h2]; simp only [Int32.reduceToInt]; omega
  have e2 : (x2 + 2).toInt = p + 2 := by rw [z_add, h2]; simp only [Int32.reduceToInt]; omega
  have c0 : x2.toNatClampNeg = p := by rw [z_cl, h2]; omega
  have c1 : (x2 + 1).toNatClampNeg = p + 1 := by rw [z_cl, e1]; omega
  have c2 : (x2 + 2).toNatClampNeg = p + 2 := by rw [z_cl, e2]; omega
  have hE : ∀ (v : Int32) (ν : Nat → Int32), rd_X h0 (rd_E h rd nt op v ν f) rd op md := fun v ν => hX.E hn
  have hF : ∀ (v : Int32) (ν : Nat → Int32), 0 ≤ v.toInt → v.toInt ≤ l → rd_s (rd_E h rd nt op v ν f) rd md cd N v.toInt l := fun v ν g1 g2 => hs.E hn g1 g2
  have last : ∀ (v' : Int32) (ν' : Nat → Int32) (q : Nat), v'.toInt = q → (q : Int) ≤ l → p + 2 ≤ q → (∀ j, j < p → ν' j = ν j) → (∀ j, q ≤ j → ν' j = ν j) → (s = 6 ∨ s = 7 ∨ s = 11 ∨ s = 12 → p + 3 ≤ q) → s < 13 → w_Reader_readOperands_L193 Qr Qt rd x2 (rd_E h rd nt op v' ν' f) bc bs := by
    intro v' ν' q g1 g2 g3 g4 g5 g6 g7
    unfold w_Reader_readOperands_L193
    refine ⟨k1, nt, n1, n2, by rw [z_in, h2, rdE_n, n3]; omega, fun h5 e5 => ?_⟩
    rw [c0, rdE_nt n8 n10, rdE_iat n8 n9] at e5
    subst e5
    refine hQ q v' _ g1 g2 ⟨fun j hj => ?_, fun j hj => ?_, ?_, g3, fun e => absurd e hs5, g6, g7⟩
    · rw [xh_up, if_neg (by omega)]; exact g4 j hj
    · rw [xh_up, if_neg (by omega)]; exact g5 j hj
    · rw [xh_up, if_pos rfl]; exact g1
  have fl : w_Reader_readOperands_L184 Qr Qt rd x2 (rd_E h rd nt op v ν f) bc bs := ⟨k1, md, k2, k3, sp_fail hT (hE v ν) hc hb⟩
  unfold w_Reader_readOperands
  refine ⟨fun g => ⟨k1, nt, n1, ?_⟩, fun g => ?_, fun g => ⟨k1, nt, n1, ?_⟩, fun g => ⟨k1, nt, n1, ?_⟩, fun g => ⟨k1, ?_⟩, fun g => ⟨k1, nt, n1, ?_⟩, fun g => ⟨k1, ?_⟩, fun g => ⟨k1, nt, n1, ?_⟩, fun g => ⟨k1, ?_⟩, fun _ _ _ _ _ _ _ _ _ => fl⟩
  · refine sp_Reader_count hT (hE v ν) (hF v ν (by omega) hl) hc hb (fun u v' g1 g2 _ => ?_)
    rw [rdE_at n8 n9]
    refine ⟨n2, by rw [z_in, e1, rdE_n, n3]; omega, fun h8 e8 => ?_⟩
    rw [c1, rdE_nt n8 n10] at e8
    subst e8
    rw [z_eq, h1] at g
    simp only [Int32.reduceToInt] at g
    exact last v' _ v'.toInt.toNat (by omega) (by omega) (by omega) (fun j hj => by rw [xh_up, if_neg (by omega)]) (fun j hj => by rw [xh_up, if_neg (by omega)]) (by omega) (by omega)
  · rw [z_eq, h1] at g
    simp only [Int32.reduceToInt] at g
    exact absurd g (by omega)
  · refine sp_Reader_count hT (hE v ν) (hF v ν (by omega) hl) hc hb (fun u v' g1 g2 _ => ?_)
    rw [rdE_at n8 n9]
    refine ⟨n2, by rw [z_in, e1, rdE_n, n3]; omega, fun h8 e8 => ?_⟩
    rw [c1, rdE_nt n8 n10] at e8
    subst e8
    rw [z_eq, h1] at g
    simp only [Int32.reduceToInt] at g
    refine sp_Reader_readMark hT (hE _ _) (hF _ _ (by omega) g2) hc hb (fun v'' g3 g4 _ => ?_)
    rw [rdE_at n8 n9]
    exact last v'' _ v''.toInt.toNat (by omega) (by omega) (by omega) (fun j hj => by rw [xh_up, if_neg (by omega)]) (fun j hj => by rw [xh_up, if_neg (by omega)]) (by omega) (by omega)
  · refine sp_Reader_count hT (hE v ν) (hF v ν (by omega) hl) hc hb (fun u v' g1 g2 _ => ?_)
    rw [rdE_at n8 n9]
    refine ⟨n2, by rw [z_in, e1, rdE_n, n3]; omega, fun h8 e8 => ?_⟩
    rw [c1, rdE_nt n8 n10] at e8
    subst e8
    rw [z_eq, h1] at g
    simp only [Int32.reduceToInt] at g
    refine ⟨nt, n1, ?_⟩
    refine sp_Reader_count hT (hE _ _) (hF _ _ (by omega) g2) hc hb (fun u2 v'' g3 g4 _ => ?_)
    rw [rdE_at n8 n9]
    refine ⟨n2, by rw [z_in, e2, rdE_n, n3]; omega, fun h9 e9 => ?_⟩
    rw [c2, rdE_nt n8 n10] at e9
    subst e9
    exact last v'' _ v''.toInt.toNat (by omega) (by omega) (by omega) (fun j hj => by rw [xh_up, if_neg (by omega), xh_up, if_neg (by omega)]) (fun j hj => by rw [xh_up, if_neg (by omega), xh_up, if_neg (by omega)]) (by omega) (by omega)
  · rw [z_eq, h1] at g
    simp only [Int32.reduceToInt] at g
    refine sp_Reader_readMark hT (hE _ _) (hF _ _ (by omega) hl) hc hb (fun v'' g3 g4 _ => ?_)
    rw [rdE_at n8 n9]
    exact last v'' _ v''.toInt.toNat (by omega) (by omega) (by omega) (fun j hj => rfl) (fun j hj => rfl) (by omega) (by omega)
  · rw [z_eq, h1] at g
    simp only [Int32.reduceToInt] at g
    refine sp_Reader_signed hT (hE v ν) (hF v ν (by omega) hl) hc hb (by simp) (fun u v' g1 g2 _ => ?_)
    rw [rdE_at n8 n9]
    refine ⟨n2, by rw [z_in, e1, rdE_n, n3]; omega, fun h8 e8 => ?_⟩
    rw [c1, rdE_nt n8 n10] at e8
    subst e8
    exact last v' _ v'.toInt.toNat (by omega) (by omega) (by omega) (fun j hj => by rw [xh_up, if_neg (by omega)]) (fun j hj => by rw [xh_up, if_neg (by omega)]) (by omega) (by omega)
  · rw [z_eq, h1] at g
    simp only [Int32.reduceToInt] at g
    refine sp_Reader_signed hT (hE v ν) (hF v ν (by omega) hl) hc hb (by simp) (fun u v' g1 g2 _ => ?_)
    rw [rdE_at n8 n9]
    refine sp_Reader_noteLong hs hn h2 (by omega) g2 (fun ν' g3 g4 _ => ?_)
    exact last v' _ v'.toInt.toNat (by omega) (by omega) (by omega) (fun j hj => g3 j (by omega)) (fun j hj => g4 j (by omega)) (by omega) (by omega)
  · rw [z_eq, h1] at g
    simp only [Int32.reduceToInt] at g
    refine sp_Reader_plainBytes hT (hE v ν) (hF v ν (by omega) hl) hc hb (by simp) (fun u v' g1 g2 _ => ?_)
    simp only [Int32.reduceToInt] at g1
    rw [rdE_at n8 n9]
    refine ⟨n2, by rw [z_in, e1, rdE_n, n3]; omega, fun h8 e8 => ?_⟩
    rw [c1, rdE_nt n8 n10] at e8
    subst e8
    exact last v' _ v'.toInt.toNat (by omega) (by omega) (by omega) (fun j hj => by rw [xh_up, if_neg (by omega)]) (fun j hj => by rw [xh_up, if_neg (by omega)]) (by omega) (by omega)
  · rw [z_eq, h1] at g
    simp only [Int32.reduceToInt] at g
    refine sp_Reader_plainBytes hT (hE v ν) (hF v ν (by omega) hl) hc hb (by simp) (fun u v' g1 g2 _ => ?_)
    simp only [Int32.reduceToInt] at g1
    rw [rdE_at n8 n9]
    refine sp_Reader_noteLong hs hn h2 (by omega) g2 (fun ν' g3 g4 _ => ?_)
    exact last v' _ v'.toInt.toNat (by omega) (by omega) (by omega) (fun j hj => g3 j (by omega)) (fun j hj => g4 j (by omega)) (by omega) (by omega)
end RD3
