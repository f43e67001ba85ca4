-- the reader: its state, and the methods that only go on
/-- what stays of the heap h0 whatever the reader does -/
def rd_X (h0 h : xb_H) (rd op md : Nat) : Prop :=
  xb_ext h0 h ∧ (∀ a, xb_k h0 a ≠ 0 → a ≠ rd → a ≠ op → xh_sm h0 h a) ∧ xb_r h rd 5 = some op ∧ xb_k h md = 3 ∧ xb_k h0 rd = 4 ∧ xb_k h0 op = 102 ∧ xb_n h0 op = 200 ∧ xb_k h0 md = 0
def rd_T (h0 : xb_H) (rd op md rc rs : Nat) (Qt : String → xb_H → Nat → Nat → Prop) : Prop := ∀ (h : xb_H) (bc bs : Nat), rd_X h0 h rd op md → rc ≤ bc → rs ≤ bs → Qt "java/lang/IllegalArgumentException" h bc bs
def rd_s (h : xb_H) (rd md cd N : Nat) (a l : Int) : Prop :=
  xb_k h rd = 4 ∧ xb_r h rd 0 = some md ∧ xb_k h md = 3 ∧ xb_r h rd 1 = some cd ∧ xb_k h cd = 100 ∧ xb_n h cd = N ∧ (xb_i h rd 3).toInt = a ∧ (xb_i h rd 4).toInt = l ∧ 0 ≤ a ∧ a ≤ l ∧ l ≤ N ∧ N ≤ 65536
theorem rd_X.I {h0 h : xb_H} {rd op md a k : Nat} {x : Int32} (hX : rd_X h0 h rd op md) (ha : a = rd ∨ a = op ∨ xb_k h0 a = 0) : rd_X h0 (xb_I h a k x) rd op md := by
  obtain ⟨h1, h2, h3, h4, h5, h6, h7, h8⟩ := hX
  refine ⟨h1, fun b hb h9 h10 => (h2 b hb h9 h10).tr (xh_smI _ _ _ ?_), h3, h4, h5, h6, h7, h8⟩
  rcases ha with e | e | e
  · exact fun e' => h9 (e'.trans e)
  · exact fun e' => h10 (e'.trans e)
  · exact fun e' => hb (e' ▸ e)
theorem rd_X.L {h0 h : xb_H} {rd op md a k : Nat} {x : Int64} (hX : rd_X h0 h rd op md) (ha : xb_k h0 a = 0) : rd_X h0 (xb_L h a k x) rd op md := by
  obtain ⟨h1, h2, h3, h4, h5, h6, h7, h8⟩ := hX
  exact ⟨h1, fun b hb h9 h10 => (h2 b hb h9 h10).tr (xh_smL _ _ _ (fun e' => hb (e' ▸ ha))), h3, h4, h5, h6, h7, h8⟩
theorem rd_X.rd {h0 h : xb_H} {rd op md : Nat} (hX : rd_X h0 h rd op md) : md ≠ rd := fun e => by
  have h1 := hX.2.2.2.2.1
  have h2 := hX.2.2.2.2.2.2.2
  rw [e, h1] at h2
  cases h2
theorem rd_s.at {h : xb_H} {rd md cd N : Nat} {a l : Int} {v : Int32} (hs : rd_s h rd md cd N a l) (h1 : 0 ≤ v.toInt) (h2 : v.toInt ≤ l) : rd_s (xb_I h rd 3 v) rd md cd N v.toInt l := by
  obtain ⟨k1, k2, k3, k4, k5, k6, k7, k8, k9, k10, k11, k12⟩ := hs
  refine ⟨k1, k2, k3, k4, k5, k6, ?_, ?_, h1, h2, k11, k12⟩
  · rw [xh_iI, if_pos rfl, xh_up, if_pos rfl]
  · rw [xh_iI, if_pos rfl, xh_up, if_neg (by omega)]
    exact k8
theorem rd_s.lim {h : xb_H} {rd md cd N : Nat} {a l : Int} {v : Int32} (hs : rd_s h rd md cd N a l) (h1 : a ≤ v.toInt) (h2 : v.toInt ≤ N) : rd_s (xb_I h rd 4 v) rd md cd N a v.toInt := by
  obtain ⟨k1, k2, k3, k4, k5, k6, k7, k8, k9, k10, k11, k12⟩ := hs
  refine ⟨k1, k2, k3, k4, k5, k6, ?_, ?_, k9, h1, h2, k12⟩
  · rw [xh_iI, if_pos rfl, xh_up, if_neg (by omega)]
    exact k7
  · rw [xh_iI, if_pos rfl, xh_up, if_pos rfl]
theorem xh_II (h : xb_H) (a k : Nat) (x y : Int32) : xb_I (xb_I h a k x) a k y = xb_I h a k y := by
  unfold xb_I xb_Ia xb_i
  simp only [bx_uu, xb_up_s]
section RD
variable {h0 : xb_H} {rd op md cd N rc rs : Nat} {Qt : String → xb_H → Nat → Nat → Prop}
theorem sp_fail {h : xb_H} {bc bs : Nat} {x1 x2 : Int32} {Qr : xb_H → Nat → Nat → Prop} (hT : rd_T h0 rd op md rc rs Qt) (hX : rd_X h0 h rd op md) (hc : rc + 1 ≤ bc) (hb : rs + 6 ≤ bs) : w_StackModule_fail md x1 x2 h bc bs Qr Qt := by
  unfold w_StackModule_fail
  refine ⟨hX.2.2.2.1, fun h2 e2 h3 e3 => ⟨by omega, by omega, hT h3 _ _ ?_ (by omega) (by omega)⟩⟩
  rw [e3, e2]
  have hm := hX.2.2.2.2.2.2.2
  exact (hX.I (.inr (.inr hm))).I (.inr (.inr hm))
theorem sp_Reader_nextByte {h : xb_H} {bc bs : Nat} {a l : Int} {Qr : Int32 → xb_H → Nat → Nat → Prop} (hT : rd_T h0 rd op md rc rs Qt) (hX : rd_X h0 h rd op md) (hs : rd_s h rd md cd N a l) (hc : rc + 1 ≤ bc) (hb : rs + 6 ≤ bs)
    (hQ : ∀ v : Int32, v.toInt = a + 1 → a < l → Qr (xb_i h cd a.toNat &&& 255) (xb_I h rd 3 v) bc bs) : w_Reader_nextByte rd h bc bs Qr Qt := by
  obtain ⟨k1, k2, k3, k4, k5, k6, k7, k8, k9, k10, k11, k12⟩ := id hs
  unfold w_Reader_nextByte w_Reader_nextByte_L23
  refine ⟨k1, fun h1 => ?_, fun h1 => ?_⟩
  · rw [z_lt, k7, k8] at h1
    have e1 : (xb_i h rd 3 + 1).toInt = a + 1 := by rw [z_add, k7]; simp only [Int32.reduceToInt]; omega
    have e3 : xb_i (xb_I h rd 3 (xb_i h rd 3 + 1)) rd 3 = xb_i h rd 3 + 1 := by rw [xh_iI, if_pos rfl, xh_up, if_pos rfl]
    have e2 : (xb_i h rd 3 + 1 - 1).toInt = a := by rw [z_sub, e1]; simp only [Int32.reduceToInt]; omega
    have hcr : cd ≠ rd := fun e => by rw [e, k1] at k5; cases k5
    refine ⟨k1, fun h2 e => ?_⟩
    subst e
    refine ⟨cd, k4, k5, ?_, ?_⟩
    · rw [z_in, e3, e2, xh_nI, k6]
      omega
    · rw [e3, z_cl, e2, xh_iI, if_neg hcr]
      exact hQ _ e1 h1
  · exact ⟨md, k2, k3, sp_fail hT hX hc hb⟩
theorem sp_Reader_byteUpTo {h : xb_H} {bc bs : Nat} {a l : Int} {x : Int32} {Qr : Int32 → xb_H → Nat → Nat → Prop} (hT : rd_T h0 rd op md rc rs Qt) (hX : rd_X h0 h rd op md) (hs : rd_s h rd md cd N a l) (hc : rc + 1 ≤ bc) (hb : rs + 6 ≤ bs)
    (hQ : ∀ u v : Int32, v.toInt = a + 1 → a < l → 0 ≤ u.toInt → u.toInt ≤ x.toInt → Qr u (xb_I h rd 3 v) bc bs) : w_Reader_byteUpTo rd x h bc bs Qr Qt := by
  unfold w_Reader_byteUpTo w_Reader_byteUpTo_L24
  refine ⟨hs.1, sp_Reader_nextByte hT hX hs hc hb (fun v hv ha _ => ⟨fun h1 => ?_, fun h1 => ?_⟩)⟩
  · rw [z_le] at h1
    refine hQ _ v hv ha ?_ h1
    rw [z_255]
    omega
  · exact ⟨md, hs.2.1, hs.2.2.1, sp_fail hT (hX.I (.inl rfl)) hc hb⟩
theorem sp_Reader_valueType {h : xb_H} {bc bs : Nat} {a l : Int} {Qr : Int32 → xb_H → Nat → Nat → Prop} (hT : rd_T h0 rd op md rc rs Qt) (hX : rd_X h0 h rd op md) (hs : rd_s h rd md cd N a l) (hc : rc + 1 ≤ bc) (hb : rs + 6 ≤ bs)
    (hQ : ∀ u v : Int32, v.toInt = a + 1 → a < l → 124 ≤ u.toInt → u.toInt ≤ 127 → u = xb_i h cd a.toNat &&& 255 → Qr u (xb_I h rd 3 v) bc bs) : w_Reader_valueType rd h bc bs Qr Qt := by
  unfold w_Reader_valueType w_Reader_valueType_L17 w_Reader_valueType_L31
  refine ⟨hs.1, sp_Reader_nextByte hT hX hs hc hb (fun v hv ha _ => ⟨fun h1 => ?_, fun h1 => ⟨fun h2 => ?_, fun h2 => ?_⟩⟩)⟩
  · exact ⟨hs.1, md, hs.2.1, hs.2.2.1, sp_fail hT (hX.I (.inl rfl)) hc hb⟩
  · rw [z_lt] at h1
    rw [z_le] at h2
    simp at h1 h2
    exact hQ _ v hv ha (by omega) (by omega) rfl
  · exact ⟨hs.1, md, hs.2.1, hs.2.2.1, sp_fail hT (hX.I (.inl rfl)) hc hb⟩
theorem sp_Reader_readMark {h : xb_H} {bc bs : Nat} {a l : Int} {x : Int32} {Qr : xb_H → Nat → Nat → Prop} (hT : rd_T h0 rd op md rc rs Qt) (hX : rd_X h0 h rd op md) (hs : rd_s h rd md cd N a l) (hc : rc + 1 ≤ bc) (hb : rs + 6 ≤ bs)
    (hQ : ∀ v : Int32, v.toInt = a + 1 → a < l → Qr (xb_I h rd 3 v) bc bs) : w_Reader_readMark rd x h bc bs Qr Qt := by
  obtain ⟨k1, k2, k3, k4, k5, k6, k7, k8, k9, k10, k11, k12⟩ := id hs
  unfold w_Reader_readMark w_Reader_readMark_L23 w_Reader_readMark_L48
  refine ⟨k1, fun h1 => ⟨k1, cd, k4, k5, ?_, fun h2 => ⟨k1, fun h3 e3 => ?_⟩, fun h2 => ?_⟩, fun h1 => ?_⟩
  · rw [z_lt, k7, k8] at h1
    rw [z_in, k7, k6]
    omega
  · rw [z_lt, k7, k8] at h1
    have e1 : (xb_i h rd 3 + 1).toInt = a + 1 := by rw [z_add, k7]; simp only [Int32.reduceToInt]; omega
    rw [e3]
    exact hQ _ e1 h1
  · exact ⟨md, k2, k3, sp_fail hT hX hc hb⟩
  · exact ⟨md, k2, k3, sp_fail hT hX hc hb⟩
theorem sp_Reader_count_L4 {Qr : Int32 → xb_H → Nat → Nat → Prop} (hT : rd_T h0 rd op md rc rs Qt) {bc bs : Nat} (hc : rc + 1 ≤ bc) (hb : rs + 6 ≤ bs) {l : Int} : ∀ (m : Nat) (x1 x2 : Int32) (h : xb_H) (a : Int), rd_X h0 h rd op md → rd_s h rd md cd N a l → 0 ≤ x2.toInt → 5 - x2.toInt ≤ m →
    (∀ (u v : Int32), a ≤ v.toInt → v.toInt ≤ l → (x2.toInt < 5 → a < v.toInt) → Qr u (xb_I h rd 3 v) bc bs) → w_Reader_count_L4 Qr Qt (m + 1) rd x1 x2 h bc bs
  | m, x1, x2, h, a, hX, hs, h0', hm, hQ => by
    obtain ⟨k1, k2, k3, k4, k5, k6, k7, k8, k9, k10, k11, k12⟩ := id hs
    unfold w_Reader_count_L4 w_Reader_count_L32 w_Reader_count_L69 w_Reader_count_L107
    have r2 := z_rg x2
    refine ⟨fun h1 => ?_, fun h1 => ⟨k1, fun h2 => ⟨k1, cd, k4, k5, ?_, fun v5 e5 => ?_⟩, fun h2 => ⟨md, k2, k3, sp_fail hT hX hc hb⟩⟩⟩
    · rw [z_le] at h1
      simp at h1
      have := hQ x1 (xb_i h rd 3) (by omega) (by omega) (by omega)
      rw [show xb_I h rd 3 (xb_i h rd 3) = h from ?_] at this
      · exact this
      · unfold xb_I
        rw [show va_up (xb_i h rd) 3 (xb_i h rd 3) = xb_i h rd from ?_]
        · show (h.1, h.2.1, va_up h.2.2.1 rd (h.2.2.1 rd), h.2.2.2.1, h.2.2.2.2) = h
          rw [show va_up h.2.2.1 rd (h.2.2.1 rd) = h.2.2.1 from ?_]
          funext b
          rw [xh_up]
          split
          · rename_i e
            rw [e]
          · rfl
        · funext b
          rw [xh_up]
          split
          · rename_i e
            rw [e]
          · rfl
    · rw [z_lt, k7, k8] at h2
      rw [z_in, k7, k6]
      omega
    · rw [z_lt, k7, k8] at h2
      rw [z_le] at h1
      simp at h1
      have e1 : (xb_i h rd 3 + 1).toInt = a + 1 := by rw [z_add, k7]; simp only [Int32.reduceToInt]; omega
      have e2 : (x2 + 1).toInt = x2.toInt + 1 := by rw [z_add]; simp only [Int32.reduceToInt]; omega
      have go : xb_k h rd = 4 ∧ ∀ h2 : xb_H, h2 = xb_I h rd 3 (xb_i h rd 3 + 1) → ∀ v3 : Int32, v3 = x1 ||| (v5 &&& 127) <<< (7 * x2 &&& 31) → (((128 : Int32) ≤ v5 → w_Reader_count_L4 Qr Qt m rd v3 (x2 + 1) h2 bc bs) ∧ (¬ (128 : Int32) ≤ v5 → Qr v3 h2 bc bs)) := by
        refine ⟨k1, fun h2 e3 v3 _ => ⟨fun _ => ?_, fun _ => ?_⟩⟩
        · subst e3
          match m, hm with
          | 0, hm => omega
          | m + 1, hm =>
            refine sp_Reader_count_L4 (l := l) hT hc hb m v3 (x2 + 1) _ (a + 1) (hX.I (.inl rfl)) ?_ (by omega) (by omega) (fun u v g1 g2 _ => ?_)
            · have := hs.at (v := xb_i h rd 3 + 1) (by omega) (by omega)
              rw [e1] at this
              exact this
            · rw [xh_II]
              exact hQ u v (by omega) g2 (by omega)
        · subst e3
          exact hQ v3 _ (by omega) (by omega) (by omega)
      exact ⟨fun _ => go, fun _ => ⟨fun _ => go, fun _ => ⟨md, k2, k3, sp_fail hT hX hc hb⟩⟩⟩
theorem sp_Reader_count {Qr : Int32 → xb_H → Nat → Nat → Prop} (hT : rd_T h0 rd op md rc rs Qt) {h : xb_H} {bc bs : Nat} {a l : Int} (hX : rd_X h0 h rd op md) (hs : rd_s h rd md cd N a l) (hc : rc + 1 ≤ bc) (hb : rs + 6 ≤ bs)
    (hQ : ∀ u v : Int32, a < v.toInt → v.toInt ≤ l → Qr u (xb_I h rd 3 v) bc bs) : w_Reader_count rd h bc bs Qr Qt := by
  unfold w_Reader_count
  exact ⟨6, sp_Reader_count_L4 hT hc hb 5 0 0 h a hX hs (by simp) (by simp) (fun u v h1 h2 h3 => hQ u v (h3 (by simp)) h2)⟩
end RD
