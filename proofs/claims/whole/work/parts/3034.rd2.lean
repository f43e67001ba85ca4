-- the reader: limits, numbers with a sign, plain bytes, names
theorem xh_Iself (h : xb_H) (a k : Nat) : xb_I h a k (xb_i h a k) = h := by
  unfold xb_I
  rw [show va_up (xb_i h a) k (xb_i h a k) = xb_i h a from ?_]
  · show (h.1, h.2.1, va_up h.2.2.1 a (h.2.2.1 a), h.2.2.2.1, h.2.2.2.2) = h
    rw [show va_up h.2.2.1 a (h.2.2.1 a) = h.2.2.1 from ?_]
    funext b
    rw [xh_up]
    split
    · rename_i e
      rw [e]
    · rfl
  · funext b
    rw [xh_up]
    split
    · rename_i e
      rw [e]
    · rfl
section RD2
variable {h0 : xb_H} {rd op md cd N rc rs : Nat} {Qt : String → xb_H → Nat → Nat → Prop}
theorem sp_Reader_limitTo {h : xb_H} {bc bs : Nat} {a l : Int} {x : Int32} {Qr : xb_H → Nat → Nat → Prop} (hT : rd_T h0 rd op md rc rs Qt) (hX : rd_X h0 h rd op md) (hs : rd_s h rd md cd N a l) (hc : rc + 1 ≤ bc) (hb : rs + 6 ≤ bs)
    (hQ : ∀ v : Int32, v.toInt = a + x.toInt → 0 ≤ x.toInt → v.toInt ≤ l → Qr (xb_I h rd 4 v) bc bs) : w_Reader_limitTo rd x h bc bs Qr Qt := by
  obtain ⟨k1, k2, k3, k4, k5, k6, k7, k8, k9, k10, k11, k12⟩ := id hs
  unfold w_Reader_limitTo w_Reader_limitTo_L17 w_Reader_limitTo_L29
  have r := z_rg x
  refine ⟨fun _ => ⟨k1, md, k2, k3, sp_fail hT hX hc hb⟩, fun h1 => ⟨k1, fun h2 => ⟨k1, fun h3 e3 => ?_⟩, fun _ => ⟨k1, md, k2, k3, sp_fail hT hX hc hb⟩⟩⟩
  rw [z_lt] at h1
  rw [z_le, z_sub, k7, k8] at h2
  simp at h1
  have e1 : (xb_i h rd 3 + x).toInt = a + x.toInt := by rw [z_add, k7]; omega
  rw [e3]
  exact hQ _ e1 h1 (by omega)
theorem sp_Reader_endsSigned {h : xb_H} {x0 x1 : Int32} {Qr : Int32 → xb_H → Prop} (hQ : ∀ r : Int32, r = 0 ∨ r = 1 → Qr r h) : w_Reader_endsSigned x0 x1 h Qr := by
  unfold w_Reader_endsSigned w_Reader_endsSigned_L39 w_Reader_endsSigned_L27 w_Reader_endsSigned_L23 w_Reader_endsSigned_L28 w_Reader_endsSigned_L44
  have q0 := hQ 0 (.inl rfl)
  have q1 := hQ 1 (.inr rfl)
  simp only [q0, q1, and_true, true_or, or_true, implies_true]
theorem sp_Reader_signed_L8 {Qr : Int64 → xb_H → Nat → Nat → Prop} (hT : rd_T h0 rd op md rc rs Qt) {bc bs : Nat} (hc : rc + 1 ≤ bc) (hb : rs + 6 ≤ bs) {l : Int} {x1 : Int32} : ∀ (m : Nat) (x2 : Int64) (x4 x5 : Int32) (h : xb_H) (a : Int), rd_X h0 h rd op md → rd_s h rd md cd N a l → 0 ≤ x5.toInt → x1.toInt - x5.toInt ≤ m →
    (∀ (u : Int64) (v : Int32), a ≤ v.toInt → v.toInt ≤ l → (x5.toInt < x1.toInt → a < v.toInt) → Qr u (xb_I h rd 3 v) bc bs) → w_Reader_signed_L8 Qr Qt (m + 1) rd x1 x2 x4 x5 h bc bs
  | m, x2, x4, x5, h, a, hX, hs, h0', hm, hQ => by
    obtain ⟨k1, k2, k3, k4, k5, k6, k7, k8, k9, k10, k11, k12⟩ := id hs
    unfold w_Reader_signed_L8 w_Reader_signed_L37 w_Reader_signed_L81 w_Reader_signed_L132
    have r2 := z_rg x5
    have r1 := z_rg x1
    refine ⟨fun h1 v1 _ => ?_, fun h1 => ⟨k1, fun h2 => ⟨k1, cd, k4, k5, ?_, fun v5 e5 => ?_⟩, fun h2 => ⟨md, k2, k3, sp_fail hT hX hc hb⟩⟩⟩
    · rw [z_le] at h1
      have := hQ (xb_lshr (xb_lshl x2 v1) v1) (xb_i h rd 3) (by omega) (by omega) (by omega)
      rw [xh_Iself] at this
      exact this
    · rw [z_lt, k7, k8] at h2
      rw [z_in, k7, k6]
      omega
    · rw [z_lt, k7, k8] at h2
      rw [z_le] at h1
      have e1 : (xb_i h rd 3 + 1).toInt = a + 1 := by rw [z_add, k7]; simp only [Int32.reduceToInt]; omega
      have e2 : (x5 + 1).toInt = x5.toInt + 1 := by rw [z_add]; simp only [Int32.reduceToInt]; omega
      have go : xb_k h rd = 4 ∧ ∀ h2 : xb_H, h2 = xb_I h rd 3 (xb_i h rd 3 + 1) → ∀ v3 : Int64, v3 = x2 ||| xb_lshl (Int32.toInt64 (v5 &&& 127)) (7 * x5) → ∀ v4 : Int32, v4 = 7 * (x5 + 1) → (((128 : Int32) ≤ v5 → w_Reader_signed_L8 Qr Qt m rd x1 v3 v4 (x5 + 1) h2 bc bs) ∧ (¬ (128 : Int32) ≤ v5 → ∀ v1 : Int32, v1 = (if 0 < 64 - v4 then 64 - v4 else 0) → Qr (xb_lshr (xb_lshl v3 v1) v1) h2 bc bs)) := by
        refine ⟨k1, fun h2 e3 v3 _ v4 _ => ⟨fun _ => ?_, fun _ v1 _ => ?_⟩⟩
        · subst e3
          match m, hm with
          | 0, hm => omega
          | m + 1, hm =>
            refine sp_Reader_signed_L8 (l := l) hT hc hb m v3 v4 (x5 + 1) _ (a + 1) (hX.I (.inl rfl)) ?_ (by omega) (by omega) (fun u v g1 g2 _ => ?_)
            · have := hs.at (v := xb_i h rd 3 + 1) (by omega) (by omega)
              rw [e1] at this
              exact this
            · rw [xh_II]
              exact hQ u v (by omega) g2 (by omega)
        · subst e3
          exact hQ _ _ (by omega) (by omega) (by omega)
      exact ⟨fun _ => go, fun _ => sp_Reader_endsSigned (fun r hr _ => ⟨fun _ => go, fun _ => ⟨md, k2, k3, sp_fail hT hX hc hb⟩⟩)⟩
theorem sp_Reader_signed {Qr : Int64 → xb_H → Nat → Nat → Prop} (hT : rd_T h0 rd op md rc rs Qt) {h : xb_H} {bc bs : Nat} {a l : Int} {x : Int32} (hX : rd_X h0 h rd op md) (hs : rd_s h rd md cd N a l) (hc : rc + 1 ≤ bc) (hb : rs + 6 ≤ bs) (hx : 0 < x.toInt)
    (hQ : ∀ (u : Int64) (v : Int32), a < v.toInt → v.toInt ≤ l → Qr u (xb_I h rd 3 v) bc bs) : w_Reader_signed rd x h bc bs Qr Qt := by
  unfold w_Reader_signed
  exact ⟨x.toInt.toNat + 1, sp_Reader_signed_L8 hT hc hb x.toInt.toNat 0 0 0 h a hX hs (by simp) (by simp only [Int32.reduceToInt]; omega) (fun u v h1 h2 h3 => hQ u v (h3 (by simp only [Int32.reduceToInt]; omega)) h2)⟩
theorem sp_Reader_plainBytes_L30 {Qr : Int64 → xb_H → Nat → Nat → Prop} {bc bs : Nat} {a l : Int} {x1 : Int32} {h : xb_H} (hs : rd_s h rd md cd N a l) (hl : a + x1.toInt ≤ l) (h0' : 0 ≤ x1.toInt)
    (hQ : ∀ (u : Int64) (v : Int32), v.toInt = a + x1.toInt → Qr u (xb_I h rd 3 v) bc bs) : ∀ (m : Nat) (x2 : Int64) (x4 : Int32), 0 ≤ x4.toInt → x1.toInt - x4.toInt ≤ m → w_Reader_plainBytes_L30 Qr Qt (m + 1) rd x1 x2 x4 h bc bs
  | m, x2, x4, h1, hm => by
    obtain ⟨k1, k2, k3, k4, k5, k6, k7, k8, k9, k10, k11, k12⟩ := id hs
    unfold w_Reader_plainBytes_L30
    have r1 := z_rg x1
    have r4 := z_rg x4
    refine ⟨fun h2 => ⟨k1, fun h3 e3 => ?_⟩, fun h2 => ⟨k1, cd, k4, k5, ?_, fun v8 _ => ?_⟩⟩
    · subst e3
      exact hQ _ _ (by rw [z_add, k7]; omega)
    · rw [z_le] at h2
      rw [z_in, z_add, k7, k6]
      omega
    · rw [z_le] at h2
      have e2 : (x4 + 1).toInt = x4.toInt + 1 := by rw [z_add]; simp only [Int32.reduceToInt]; omega
      match m, hm with
      | 0, hm => omega
      | m + 1, hm => exact sp_Reader_plainBytes_L30 hs hl h0' hQ m v8 (x4 + 1) (by omega) (by omega)
theorem sp_Reader_plainBytes {Qr : Int64 → xb_H → Nat → Nat → Prop} (hT : rd_T h0 rd op md rc rs Qt) {h : xb_H} {bc bs : Nat} {a l : Int} {x : Int32} (hX : rd_X h0 h rd op md) (hs : rd_s h rd md cd N a l) (hc : rc + 1 ≤ bc) (hb : rs + 6 ≤ bs) (hx : 0 < x.toInt)
    (hQ : ∀ (u : Int64) (v : Int32), v.toInt = a + x.toInt → v.toInt ≤ l → Qr u (xb_I h rd 3 v) bc bs) : w_Reader_plainBytes rd x h bc bs Qr Qt := by
  obtain ⟨k1, k2, k3, k4, k5, k6, k7, k8, k9, k10, k11, k12⟩ := id hs
  unfold w_Reader_plainBytes w_Reader_plainBytes_L25
  have r := z_rg x
  refine ⟨k1, fun h1 => ⟨x.toInt.toNat + 1, ?_⟩, fun _ => ⟨md, k2, k3, sp_fail hT hX hc hb⟩⟩
  rw [z_le, z_sub, k7, k8] at h1
  exact sp_Reader_plainBytes_L30 hs (by omega) (by omega) (fun u v hv => hQ u v hv (by omega)) _ 0 0 (by simp) (by simp only [Int32.reduceToInt]; omega)
theorem sp_Reader_groupLength_L164 {Qr : Int32 → xb_H → Prop} {a l : Int} {x1 x4 : Int32} {h : xb_H} (hs : rd_s h rd md cd N a l) (h1 : 0 ≤ x1.toInt) (h2 : x1.toInt + x4.toInt ≤ N) (h4 : x4.toInt ≤ 4)
    (hQ : Qr 0 h ∧ Qr x4 h) : ∀ (m : Nat) (x8 : Int32), 0 ≤ x8.toInt → x4.toInt - x8.toInt ≤ m → w_Reader_groupLength_L164 Qr (m + 1) rd x1 x4 x8 h
  | m, x8, h8, hm => by
    obtain ⟨k1, k2, k3, k4, k5, k6, k7, k8, k9, k10, k11, k12⟩ := id hs
    unfold w_Reader_groupLength_L164 w_Reader_groupLength_L202
    have r1 := z_rg x1
    have r8 := z_rg x8
    refine ⟨fun _ => hQ.2, fun h3 => ⟨k1, cd, k4, k5, ?_, fun v6 _ => ⟨fun _ => hQ.1, fun _ => ⟨fun _ => ?_, fun _ => hQ.1⟩⟩⟩⟩
    · rw [z_le] at h3
      rw [z_in, z_add, k6]
      omega
    · rw [z_le] at h3
      have e2 : (x8 + 1).toInt = x8.toInt + 1 := by rw [z_add]; simp only [Int32.reduceToInt]; omega
      match m, hm with
      | 0, hm => omega
      | m + 1, hm => exact sp_Reader_groupLength_L164 hs h1 h2 h4 hQ m (x8 + 1) (by omega) (by omega)
theorem sp_Reader_groupLength {Qr : Int32 → xb_H → Prop} {a l : Int} {x1 x2 : Int32} {h : xb_H} (hs : rd_s h rd md cd N a l) (h1 : 0 ≤ x1.toInt) (h2 : x1.toInt < x2.toInt) (h3 : x2.toInt ≤ N)
    (hQ : ∀ u : Int32, 0 ≤ u.toInt → u.toInt ≤ 4 → x1.toInt + u.toInt ≤ x2.toInt → Qr u h) : w_Reader_groupLength rd x1 x2 h Qr := by
  obtain ⟨k1, k2, k3, k4, k5, k6, k7, k8, k9, k10, k11, k12⟩ := id hs
  unfold w_Reader_groupLength
  have r1 := z_rg x1
  have r2 := z_rg x2
  have q0 : Qr 0 h := hQ 0 (by simp) (by simp) (by simp only [Int32.reduceToInt]; omega)
  have L43 : ∀ (y x3 : Int32), 2 ≤ y.toInt → y.toInt ≤ 4 → w_Reader_groupLength_L43 Qr rd x1 x2 x3 y h := by
    intro y x3 hy hy4
    unfold w_Reader_groupLength_L43 w_Reader_groupLength_L67
    refine ⟨fun _ => q0, fun _ => ⟨fun _ => q0, fun _ => ⟨fun h5 => ⟨k1, cd, k4, k5, ?_, fun v8 _ => ?_⟩, fun _ => q0⟩⟩⟩
    · rw [z_le, z_sub] at h5
      rw [z_in, z_add, k6]
      simp
      omega
    · rw [z_le, z_sub] at h5
      have L143 : ∀ (x6 y0 : Int32), w_Reader_groupLength_L143 Qr rd x1 y v8 x6 y0 h := by
        intro x6 y0
        unfold w_Reader_groupLength_L143 w_Reader_groupLength_L159
        refine ⟨fun _ => q0, fun _ => ⟨fun _ => ⟨5, ?_⟩, fun _ => q0⟩⟩
        exact sp_Reader_groupLength_L164 hs h1 (by omega) hy4 ⟨q0, hQ y (by omega) hy4 (by omega)⟩ 4 2 (by simp) (by simp only [Int32.reduceToInt]; omega)
      unfold w_Reader_groupLength_L112
      simp only [L143, implies_true, and_self]
  refine ⟨k1, cd, k4, k5, ?_, fun v5 _ => ⟨fun _ => ⟨fun _ => ⟨fun _ => L43 4 v5 (by simp) (by simp), fun _ => L43 3 v5 (by simp) (by simp)⟩, fun _ => L43 2 v5 (by simp) (by simp)⟩, fun _ => hQ 1 (by simp) (by simp) (by simp only [Int32.reduceToInt]; omega)⟩⟩
  rw [z_in, k6]
  omega
theorem sp_Reader_readName_L43 {Qr : Int32 → xb_H → Nat → Nat → Prop} (hT : rd_T h0 rd op md rc rs Qt) {bc bs : Nat} (hc : rc + 1 ≤ bc) (hb : rs + 6 ≤ bs) {l : Int} {x1 x2 : Int32} (h2 : x2.toInt ≤ l) : ∀ (m : Nat) (x3 : Int32) (h : xb_H) (a : Int), rd_X h0 h rd op md → rd_s h rd md cd N a l → 0 ≤ x3.toInt → a ≤ x2.toInt → x2.toInt - x1.toInt + x3.toInt ≤ a → x1.toInt - x3.toInt ≤ m →
    (∀ v : Int32, v.toInt = x2.toInt → Qr x1 (xb_I h rd 3 v) bc bs) → w_Reader_readName_L43 Qr Qt (m + 1) rd x1 x2 x3 h bc bs
  | m, x3, h, a, hX, hs, h3, ha, hn, hm, hQ => by
    obtain ⟨k1, k2, k3, k4, k5, k6, k7, k8, k9, k10, k11, k12⟩ := id hs
    unfold w_Reader_readName_L43 w_Reader_readName_L84 w_Reader_readName_L101
    have r3 := z_rg x3
    have r1 := z_rg x1
    have done : xb_i h rd 3 = xb_i h rd 3 → a = x2.toInt → Qr x1 h bc bs := by
      intro _ e
      have := hQ (xb_i h rd 3) (by omega)
      rw [xh_Iself] at this
      exact this
    refine ⟨fun h1 => done rfl ?_, fun h1 => ⟨k1, fun h4 => done rfl ?_, fun h4 => ?_⟩⟩
    · rw [z_le] at h1
      omega
    · rw [z_le, k7] at h4
      omega
    · rw [z_le] at h1
      rw [z_le, k7] at h4
      refine sp_Reader_groupLength hs (by omega) (by omega) (by omega) (fun u u1 u2 u3 _ => ⟨fun h5 => ⟨k1, fun h6 e6 => ?_⟩, fun _ => ⟨md, k2, k3, sp_fail hT hX hc hb⟩⟩)
      subst e6
      rw [z_eq] at h5
      simp at h5
      rw [k7] at u3
      have e1 : (xb_i h rd 3 + u).toInt = a + u.toInt := by rw [z_add, k7]; omega
      have e2 : (x3 + 1).toInt = x3.toInt + 1 := by rw [z_add]; simp only [Int32.reduceToInt]; omega
      match m, hm with
      | 0, hm => omega
      | m + 1, hm =>
        refine sp_Reader_readName_L43 hT hc hb h2 m (x3 + 1) _ (a + u.toInt) (hX.I (.inl rfl)) ?_ (by omega) (by omega) (by omega) (by omega) (fun v hv => ?_)
        · have := hs.at (v := xb_i h rd 3 + u) (by omega) (by omega)
          rw [e1] at this
          exact this
        · rw [xh_II]
          exact hQ v hv
theorem sp_Reader_readName {Qr : Int32 → xb_H → Nat → Nat → Prop} (hT : rd_T h0 rd op md rc rs Qt) {h : xb_H} {bc bs : Nat} {a l : Int} (hX : rd_X h0 h rd op md) (hs : rd_s h rd md cd N a l) (hc : rc + 1 ≤ bc) (hb : rs + 6 ≤ bs)
    (hQ : ∀ u v : Int32, 0 ≤ u.toInt → a + u.toInt < v.toInt → v.toInt ≤ l → Qr u (xb_I h rd 3 v) bc bs) : w_Reader_readName rd h bc bs Qr Qt := by
  unfold w_Reader_readName
  refine ⟨hs.1, sp_Reader_count hT hX hs hc hb (fun u v h1 h2 _ => ?_)⟩
  have hs1 := hs.at (v := v) (by have := hs.2.2.2.2.2.2.2.2.1; omega) h2
  have hX1 : rd_X h0 (xb_I h rd 3 v) rd op md := hX.I (.inl rfl)
  obtain ⟨k1, k2, k3, k4, k5, k6, k7, k8, k9, k10, k11, k12⟩ := id hs1
  have r := z_rg u
  unfold w_Reader_readName_L22 w_Reader_readName_L34
  refine ⟨fun _ => ⟨k1, md, k2, k3, sp_fail hT hX1 hc hb⟩, fun h3 => ⟨fun h4 => ⟨k1, fun v2 e2 => ⟨u.toInt.toNat + 1, ?_⟩⟩, fun _ => ⟨k1, md, k2, k3, sp_fail hT hX1 hc hb⟩⟩⟩
  rw [z_lt] at h3
  rw [z_le, z_sub, k7, k8] at h4
  simp at h3
  have e3 : v2.toInt = v.toInt + u.toInt := by rw [e2, z_add, k7]; omega
  refine sp_Reader_readName_L43 hT hc hb (by omega) _ 0 _ v.toInt hX1 hs1 (by simp) (by omega) (by simp only [Int32.reduceToInt]; omega) (by simp only [Int32.reduceToInt]; omega) (fun w hw => ?_)
  rw [xh_II]
  exact hQ u w h3 (by omega) (by omega)
end RD2
