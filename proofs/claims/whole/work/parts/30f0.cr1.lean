-- equality: the class's reader, exact
/-- a fault is R's fault -/
def rdT {α : Type} (h0 : xb_H) (rd op md rc rs b : Nat) (R : Except (Nat × Nat) α) (Qt : String → xb_H → Nat → Nat → Prop) : Prop := ∀ (h : xb_H) (bc bs : Nat), rd_X h0 h rd op md → rc ≤ bc → rs ≤ bs → (∃ Fl : Nat × Nat, R = .error Fl ∧ (xb_i h md 17).toInt = Fl.1 ∧ (xb_i h md 18).toInt + b = Fl.2) → Qt "java/lang/IllegalArgumentException" h bc bs
/-- the class's reader stands at p, may read up to e; its bytes are those from b on -/
def rq (h : xb_H) (rd md cd N b p e : Nat) (cb : Nat → Int32) : Prop := b ≤ p ∧ b ≤ e ∧ rd_s h rd md cd N ((p - b : Nat) : Int) ((e - b : Nat) : Int) ∧ cd ≠ rd ∧ ∀ j, j < N → xb_i h cd j = cb (b + j)
section CR1
variable {α : Type} {h0 : xb_H} {rd op md cd N rc rs b p q e : Nat} {cb : Nat → Int32} {R : Except (Nat × Nat) α} {Qt : String → xb_H → Nat → Nat → Prop} {h : xb_H} {bc bs : Nat} {K : Nat → Except (Nat × Nat) α}
theorem y_fail {x1 x2 : Int32} {c w : Nat} {Qr : xb_H → Nat → Nat → Prop} (hT : rdT h0 rd op md rc rs b R Qt) (hX : rd_X h0 h rd op md) (hc : rc + 1 ≤ bc) (hb : rs + 6 ≤ bs) (hR : R = .error (c, w)) (h1 : x1.toInt = c) (h2 : x2.toInt + b = w) : w_StackModule_fail md x1 x2 h bc bs Qr Qt := by
  unfold w_StackModule_fail
  refine ⟨hX.2.2.2.1, fun h2' e2 h3 e3 => ⟨by omega, by omega, hT h3 _ _ ?_ (by omega) (by omega) ⟨(c, w), hR, ?_, ?_⟩⟩⟩
  · rw [e3, e2]
    have hm := hX.2.2.2.2.2.2.2
    exact (hX.I (.inr (.inr hm))).I (.inr (.inr hm))
  · rw [e3, e2, xh_iI, if_pos rfl, xh_up, if_neg (by decide), xh_iI, if_pos rfl, xh_up, if_pos rfl]
    exact h1
  · rw [e3, xh_iI, if_pos rfl, xh_up, if_pos rfl]
    exact h2
theorem rq.ix (hs : rq h rd md cd N b p e cb) : (xb_i h rd 3).toInt + b = p ∧ (xb_i h rd 4).toInt + b = e ∧ p ≤ e ∧ e ≤ b + N := by
  obtain ⟨h1, h2, ⟨k1, k2, k3, k4, k5, k6, k7, k8, k9, k10, k11, k12⟩, -⟩ := hs
  omega
theorem rq.at {v : Int32} (hs : rq h rd md cd N b p e cb) (hq : v.toInt + b = q) (h0 : b ≤ q) (h1 : q ≤ e) : rq (xb_I h rd 3 v) rd md cd N b q e cb := by
  obtain ⟨h1', h2, h3, h4, h5⟩ := hs
  refine ⟨h0, h2, ?_, h4, fun j hj => ?_⟩
  · have := h3.at (v := v) (by omega) (by omega)
    rw [show v.toInt = ((q - b : Nat) : Int) by omega] at this
    exact this
  · rw [xh_iI, if_neg h4]
    exact h5 j hj
theorem rq.by (hs : rq h rd md cd N b p e cb) (hp : p < e) : xb_i h cd (xb_i h rd 3).toNatClampNeg = cb p := by
  obtain ⟨h1, h2, ⟨k1, k2, k3, k4, k5, k6, k7, k8, k9, k10, k11, k12⟩, h4, h5⟩ := hs
  rw [z_cl, k7, Int.toNat_natCast, h5 _ (by omega)]
  congr 1
  omega
theorem rq.in (hs : rq h rd md cd N b p e cb) (hp : p < e) : vp_in (xb_i h rd 3) (xb_n h cd) := by
  obtain ⟨h1, h2, ⟨k1, k2, k3, k4, k5, k6, k7, k8, k9, k10, k11, k12⟩, h4, h5⟩ := hs
  rw [z_in, k7, k6]
  omega
theorem rq.lt (hs : rq h rd md cd N b p e cb) : xb_i h rd 3 < xb_i h rd 4 ↔ p < e := by
  have := hs.ix
  rw [z_lt]
  omega
theorem rq.inc (hs : rq h rd md cd N b p e cb) (hp : p < e) : (xb_i h rd 3 + 1).toInt + b = (p + 1 : Nat) := by
  obtain ⟨h1, h2, ⟨k1, k2, k3, k4, k5, k6, k7, k8, k9, k10, k11, k12⟩, h4, h5⟩ := hs
  rw [z_add, k7]
  simp only [Int32.reduceToInt]
  omega
theorem y_nextByte {Qr : Int32 → xb_H → Nat → Nat → Prop} (hT : rdT h0 rd op md rc rs b R Qt) (hX : rd_X h0 h rd op md) (hs : rq h rd md cd N b p e cb) (hc : rc + 1 ≤ bc) (hb : rs + 6 ≤ bs) (hR : e ≤ p → R = .error (2, e))
    (hQ : ∀ v : Int32, v.toInt + b = (p + 1 : Nat) → p < e → Qr (ub cb p) (xb_I h rd 3 v) bc bs) : w_Reader_nextByte rd h bc bs Qr Qt := by
  obtain ⟨k1, k2, k3, k4, k5, k6, k7, k8, k9, k10, k11, k12⟩ := hs.2.2.1
  unfold w_Reader_nextByte w_Reader_nextByte_L23
  refine ⟨k1, fun h1 => ?_, fun h1 => ?_⟩
  · rw [hs.lt] at h1
    have e1 := hs.inc h1
    have e3 : xb_i (xb_I h rd 3 (xb_i h rd 3 + 1)) rd 3 = xb_i h rd 3 + 1 := by rw [xh_iI, if_pos rfl, xh_up, if_pos rfl]
    have e4 : xb_i h rd 3 + 1 - 1 = xb_i h rd 3 := by rw [Int32.add_sub_cancel]
    refine ⟨k1, fun h2 e => ?_⟩
    subst e
    refine ⟨cd, k4, k5, ?_, ?_⟩
    · rw [e3, e4]
      exact hs.in h1
    · rw [e3, e4, xh_iI, if_neg hs.2.2.2.1, hs.by h1]
      exact hQ _ e1 h1
  · rw [hs.lt] at h1
    exact ⟨md, k2, k3, y_fail hT hX hc hb (hR (by omega)) rfl hs.ix.2.1⟩
theorem pW_s {x1 x2 : Int32} (h1 : p < e) (h2 : ¬ ub cb p < x1 ∧ ub cb p ≤ x2) : pW cb e x1 x2 p = .ok (p + 1) := mkP_s (fun q q' a b => a.1.trans b.1.symm) ⟨rfl, h2⟩ h1
theorem pW_2 {x1 x2 : Int32} (h1 : e ≤ p) : pW cb e x1 x2 p = .error (2, e) := by
  unfold pW
  rw [mkP_n (fun ⟨q, h3, h4⟩ => by omega)]
  unfold fVT
  rw [if_pos h1]
theorem pW_5 {x1 x2 : Int32} (h1 : p < e) (h2 : ¬ (¬ ub cb p < x1 ∧ ub cb p ≤ x2)) : pW cb e x1 x2 p = .error (5, p) := by
  unfold pW
  rw [mkP_n (fun ⟨q, h3, h4⟩ => h2 h3.2)]
  unfold fVT
  rw [if_neg (by omega)]
theorem pVT_s (h1 : p < e) (h2 : ¬ ub cb p < 124 ∧ ¬ 127 < ub cb p) : pVT cb e p = .ok (p + 1) := mkP_s (fun q q' a b => a.1.trans b.1.symm) ⟨rfl, h2⟩ h1
theorem pVT_2 (h1 : e ≤ p) : pVT cb e p = .error (2, e) := by
  unfold pVT
  rw [mkP_n (fun ⟨q, h3, h4⟩ => by omega)]
  unfold fVT
  rw [if_pos h1]
theorem pVT_5 (h1 : p < e) (h2 : ¬ (¬ ub cb p < 124 ∧ ¬ 127 < ub cb p)) : pVT cb e p = .error (5, p) := by
  unfold pVT
  rw [mkP_n (fun ⟨q, h3, h4⟩ => h2 h3.2)]
  unfold fVT
  rw [if_neg (by omega)]
/-- behind a byte that was read: its place -/
theorem rq.m1 {v : Int32} (hv : v.toInt + b = (p + 1 : Nat)) (hp : b ≤ p) : (v - 1).toInt + b = p := by
  rw [z_sub]
  simp only [Int32.reduceToInt]
  have := z_rg v
  omega
theorem y_byteUpTo {x : Int32} {Qr : Int32 → xb_H → Nat → Nat → Prop} (hT : rdT h0 rd op md rc rs b R Qt) (hX : rd_X h0 h rd op md) (hs : rq h rd md cd N b p e cb) (hc : rc + 1 ≤ bc) (hb : rs + 6 ≤ bs) (hR : R = (pW cb e 0 x p).bind K)
    (hQ : ∀ v : Int32, v.toInt + b = (p + 1 : Nat) → p < e → ub cb p ≤ x → R = K (p + 1) → Qr (ub cb p) (xb_I h rd 3 v) bc bs) : w_Reader_byteUpTo rd x h bc bs Qr Qt := by
  unfold w_Reader_byteUpTo w_Reader_byteUpTo_L24
  have h0' : ¬ ub cb p < 0 := by
    rw [z_lt]
    have := ub_r (cb := cb) (p := p)
    simp only [Int32.reduceToInt]
    omega
  refine ⟨hs.2.2.1.1, y_nextByte hT hX hs hc hb (fun h9 => by rw [hR, pW_2 h9]; rfl) (fun v hv ha _ => ⟨fun h1 => ?_, fun h1 => ?_⟩)⟩
  · exact hQ v hv ha h1 (by rw [hR, pW_s ha ⟨h0', h1⟩]; rfl)
  · refine ⟨md, hs.2.2.1.2.1, hs.2.2.1.2.2.1, y_fail (w := p) hT (hX.I (.inl rfl)) hc hb (by rw [hR, pW_5 ha (fun h9 => h1 h9.2)]; rfl) rfl ?_⟩
    rw [xh_iI, if_pos rfl, xh_up, if_pos rfl]
    exact rq.m1 hv hs.1
theorem y_valueType {Qr : Int32 → xb_H → Nat → Nat → Prop} (hT : rdT h0 rd op md rc rs b R Qt) (hX : rd_X h0 h rd op md) (hs : rq h rd md cd N b p e cb) (hc : rc + 1 ≤ bc) (hb : rs + 6 ≤ bs) (hR : R = (pVT cb e p).bind K)
    (hQ : ∀ v : Int32, v.toInt + b = (p + 1 : Nat) → p < e → 124 ≤ (ub cb p).toInt → (ub cb p).toInt ≤ 127 → R = K (p + 1) → Qr (ub cb p) (xb_I h rd 3 v) bc bs) : w_Reader_valueType rd h bc bs Qr Qt := by
  unfold w_Reader_valueType w_Reader_valueType_L17 w_Reader_valueType_L31
  have key : ∀ v : Int32, v.toInt + b = (p + 1 : Nat) → p < e → ¬ (¬ ub cb p < 124 ∧ ¬ 127 < ub cb p) → w_StackModule_fail md 5 (xb_i (xb_I h rd 3 v) rd 3 - 1) (xb_I h rd 3 v) bc bs (fun h10 bc11 bs11 => xb_ext (xb_I h rd 3 v) h10 → Qr (ub cb p) h10 bc11 bs11) Qt := fun v hv ha h9 => by
    refine y_fail (w := p) hT (hX.I (.inl rfl)) hc hb (by rw [hR, pVT_5 ha h9]; rfl) rfl ?_
    rw [xh_iI, if_pos rfl, xh_up, if_pos rfl]
    exact rq.m1 hv hs.1
  refine ⟨hs.2.2.1.1, y_nextByte hT hX hs hc hb (fun h9 => by rw [hR, pVT_2 h9]; rfl) (fun v hv ha _ => ⟨fun h1 => ?_, fun h1 => ⟨fun h2 => ?_, fun h2 => ?_⟩⟩)⟩
  · exact ⟨hs.2.2.1.1, md, hs.2.2.1.2.1, hs.2.2.1.2.2.1, key v hv ha (fun h9 => h9.1 h1)⟩
  · have h3 : ¬ 127 < ub cb p := by
      rw [z_le] at h2
      rw [z_lt]
      omega
    refine hQ v hv ha ?_ ?_ (by rw [hR, pVT_s ha ⟨h1, h3⟩]; rfl)
    · rw [z_lt] at h1
      simp only [Int32.reduceToInt] at h1
      omega
    · rw [z_le] at h2
      exact h2
  · refine ⟨hs.2.2.1.1, md, hs.2.2.1.2.1, hs.2.2.1.2.2.1, key v hv ha (fun h9 => h9.2 ?_)⟩
    rw [z_le] at h2
    rw [z_lt]
    omega
theorem y_readMark {x : Int32} {Qr : xb_H → Nat → Nat → Prop} (hT : rdT h0 rd op md rc rs b R Qt) (hX : rd_X h0 h rd op md) (hs : rq h rd md cd N b p e cb) (hc : rc + 1 ≤ bc) (hb : rs + 6 ≤ bs) (hby : ∀ j, -128 ≤ (cb j).toInt ∧ (cb j).toInt ≤ 127) (hx : 0 ≤ x.toInt ∧ x.toInt ≤ 127) (hR : R = (pW cb e x x p).bind K)
    (hQ : ∀ v : Int32, v.toInt + b = (p + 1 : Nat) → p < e → ub cb p = x → R = K (p + 1) → Qr (xb_I h rd 3 v) bc bs) : w_Reader_readMark rd x h bc bs Qr Qt := by
  obtain ⟨k1, k2, k3, k4, k5, k6, k7, k8, k9, k10, k11, k12⟩ := hs.2.2.1
  have hbp := hby p
  have hu : (ub cb p).toInt = (cb p).toInt % 256 := by unfold ub; rw [z_255]
  have hxe : ub cb p = x ↔ cb p = x := by
    rw [z_eq, z_eq, hu]
    omega
  have hxw : (¬ ub cb p < x ∧ ub cb p ≤ x) ↔ ub cb p = x := by
    rw [z_lt, z_le, z_eq]
    omega
  unfold w_Reader_readMark w_Reader_readMark_L23 w_Reader_readMark_L48
  refine ⟨k1, fun h1 => ⟨k1, cd, k4, k5, ?_, fun h2 => ⟨k1, fun h3 e3 => ?_⟩, fun h2 => ?_⟩, fun h1 => ?_⟩
  · exact hs.in (hs.lt.mp h1)
  · have h1' := hs.lt.mp h1
    rw [hs.by h1'] at h2
    have h4 := hxe.mpr h2
    rw [e3]
    exact hQ _ (hs.inc h1') h1' h4 (by rw [hR, pW_s h1' (hxw.mpr h4)]; rfl)
  · have h1' := hs.lt.mp h1
    rw [hs.by h1'] at h2
    exact ⟨md, k2, k3, y_fail (w := p) hT hX hc hb (by rw [hR, pW_5 h1' (fun h9 => h2 (hxe.mp (hxw.mp h9)))]; rfl) rfl hs.ix.1⟩
  · rw [hs.lt] at h1
    exact ⟨md, k2, k3, y_fail hT hX hc hb (by rw [hR, pW_2 (by omega)]; rfl) rfl hs.ix.2.1⟩
theorem cnt_st {x1 g k : Int32} {vv : Int64} {n : Nat} (hg : 0 ≤ g.toInt ∧ g.toInt < 256) (hk : k.toInt = n) (hn : n < 5) (h4 : n = 4 → g.toInt ≤ 15) (h : x1.toBitVec.toNat = vv.toBitVec.toNat) : (x1 ||| (g &&& 127) <<< (7 * k &&& 31)).toBitVec.toNat = (vv ||| xb_lshl (Int32.toInt64 (g &&& 127)) (7 * k)).toBitVec.toNat := by
  have m1 : (g &&& 127).toInt = g.toInt % 128 := z_127 g
  obtain ⟨w, hw⟩ : ∃ w : Nat, g.toInt % 128 = w := ⟨(g.toInt % 128).toNat, by omega⟩
  have k7 : (7 * k).toInt = (7 * n : Nat) := by
    rw [Int32.toInt_mul, z_bm, hk]
    simp only [Int32.reduceToInt]
    omega
  have m2 : (Int32.toInt64 (g &&& 127)).toBitVec.toNat = w := Z_of32N (by rw [m1]; exact hw)
  have m3 : (g &&& 127).toBitVec.toNat = w := by
    rw [z_and32, show (127 : Int32).toBitVec.toNat = 2 ^ 7 - 1 from rfl, Nat.and_two_pow_sub_one_eq_mod]
    have := z_nat g
    omega
  have k8 : (7 * k).toBitVec.toNat % 32 = 7 * n := by
    have := z_nat (7 * k)
    rw [k7] at this
    omega
  rw [z_or32, Z_or, h, z_shl32 k8, Z_shl k7 (by omega), m2, m3]
  have b5 : w * 2 ^ (7 * n) < 4294967296 := by
    have hw4 : n = 4 → w ≤ 15 := fun e => by have := h4 e; omega
    have : n = 0 ∨ n = 1 ∨ n = 2 ∨ n = 3 ∨ n = 4 := by omega
    rcases this with e | e | e | e | e <;> subst e <;> simp <;> omega
  rw [Nat.mod_eq_of_lt b5, Nat.mod_eq_of_lt (by omega)]
theorem rdc_p : ∀ {m p q : Nat} {v x : Int64} {k : Int32}, rdc cb m p v k = some (q, x) → p < q
  | 0, p, q, v, x, k, h7 => by cases h7
  | m + 1, p, q, v, x, k, h7 => by
    unfold rdc at h7
    split at h7
    · cases h7
    · split at h7
      · have := rdc_p h7
        omega
      · simp only [Option.some.injEq, Prod.mk.injEq] at h7
        omega
theorem y_countL {Qr : Int32 → xb_H → Nat → Nat → Prop} (hT : rdT h0 rd op md rc rs b R Qt) (hc : rc + 1 ≤ bc) (hb : rs + 6 ≤ bs) : ∀ (m : Nat) (x1 x2 : Int32) (h : xb_H) (p : Nat) (vv : Int64), rd_X h0 h rd op md → rq h rd md cd N b p e cb → x2.toInt = 4 - m → m ≤ 4 → x1.toBitVec.toNat = vv.toBitVec.toNat →
    ((¬ ∃ q x, rdc cb (m + 1) p vv x2 = some (q, x) ∧ q ≤ e) → R = .error (fdc cb e (m + 1) p x2)) →
    (∀ (u v : Int32) (q : Nat) (x : Int64), rdc cb (m + 1) p vv x2 = some (q, x) → p < q → q ≤ e → u.toBitVec.toNat = x.toBitVec.toNat → v.toInt + b = q → Qr u (xb_I h rd 3 v) bc bs) → w_Reader_count_L4 Qr Qt (m + 1) rd x1 x2 h bc bs
  | m, x1, x2, h, p, vv, hX, hs, h2', hm, hv, hR, hQ => by
    obtain ⟨k1, k2, k3, k4, k5, k6, k7, k8, k9, k10, k11, k12⟩ := hs.2.2.1
    have hu := ub_r (cb := cb) (p := p)
    unfold w_Reader_count_L4 w_Reader_count_L32 w_Reader_count_L69 w_Reader_count_L107
    have e4 : x2 = 4 ↔ m = 0 := by
      rw [z_eq, h2']
      simp only [Int32.reduceToInt]
      omega
    refine ⟨fun h1 => ?_, fun h1 => ⟨k1, fun h2 => ⟨k1, cd, k4, k5, hs.in (hs.lt.mp h2), fun v5 e5 => ?_⟩, fun h2 => ⟨md, k2, k3, ?_⟩⟩⟩
    · rw [z_le, h2'] at h1
      simp only [Int32.reduceToInt] at h1
      omega
    · have h2p := hs.lt.mp h2
      rw [hs.by h2p] at e5
      have e5' : v5 = ub cb p := e5
      subst e5'
      have go : (m = 0 → ub cb p ≤ 15) → xb_k h rd = 4 ∧ ∀ h2 : xb_H, h2 = xb_I h rd 3 (xb_i h rd 3 + 1) → ∀ v3 : Int32, v3 = x1 ||| (ub cb p &&& 127) <<< (7 * x2 &&& 31) → (((128 : Int32) ≤ ub cb p → w_Reader_count_L4 Qr Qt m rd v3 (x2 + 1) h2 bc bs) ∧ (¬ (128 : Int32) ≤ ub cb p → Qr v3 h2 bc bs)) := by
        intro h15
        have hst := cnt_st (x1 := x1) (vv := vv) (g := ub cb p) (k := x2) (n := 4 - m) ⟨by omega, by omega⟩ (by omega) (by omega) (fun e9 => by
          have := h15 (by omega)
          rw [z_le] at this
          simp only [Int32.reduceToInt] at this
          exact this) hv
        have hcn : ¬ (x2 = 4 ∧ ¬ ub cb p ≤ 15) := fun h9 => h9.2 (h15 (e4.mp h9.1))
        refine ⟨k1, fun h2 e3 v3 ev => ⟨fun h128 => ?_, fun h128 => ?_⟩⟩
        · subst e3 ev
          match m, hm, h2', hR, hQ, h15 with
          | 0, hm, h2', hR, hQ, h15 =>
            have := h15 rfl
            rw [z_le] at this h128
            simp only [Int32.reduceToInt] at this h128
            omega
          | m + 1, hm, h2', hR, hQ, h15 =>
            have er : rdc cb (m + 1 + 1) p vv x2 = rdc cb (m + 1) (p + 1) (vv ||| xb_lshl (Int32.toInt64 (ub cb p &&& 127)) (7 * x2)) (x2 + 1) := by
              conv => lhs; unfold rdc
              rw [if_neg hcn, if_pos h128]
            have ef : fdc cb e (m + 1 + 1) p x2 = fdc cb e (m + 1) (p + 1) (x2 + 1) := by
              conv => lhs; unfold fdc
              rw [if_neg (by omega), if_neg hcn]
            rw [er] at hR hQ
            rw [ef] at hR
            refine y_countL hT hc hb m _ (x2 + 1) _ (p + 1) _ (hX.I (.inl rfl)) (hs.at (hs.inc h2p) (by have := hs.1; omega) h2p) (by
              rw [z_add, h2']
              simp only [Int32.reduceToInt]
              omega) (by omega) hst hR (fun u v q x g1 g2 g3 g4 g5 => ?_)
            rw [xh_II]
            exact hQ u v q x g1 (by omega) g3 g4 g5
        · subst e3
          have er : rdc cb (m + 1) p vv x2 = some (p + 1, vv ||| xb_lshl (Int32.toInt64 (ub cb p &&& 127)) (7 * x2)) := by
            unfold rdc
            rw [if_neg hcn, if_neg h128]
          exact hQ v3 _ (p + 1) _ er (by omega) h2p (by rw [ev]; exact hst) (hs.inc h2p)
      refine ⟨fun h9 => go (fun h8 => absurd (e4.mpr h8) h9), fun h9 => ⟨fun h15 => go (fun _ => h15), fun h15 => ⟨md, k2, k3, y_fail (w := p) (c := 3) hT hX hc hb ?_ rfl hs.ix.1⟩⟩⟩
      have er : rdc cb (m + 1) p vv x2 = none := by
        unfold rdc
        rw [if_pos ⟨h9, h15⟩]
      have ef : fdc cb e (m + 1) p x2 = (3, p) := by
        unfold fdc
        rw [if_neg (by omega), if_pos ⟨h9, h15⟩]
      rw [hR (by rw [er]; rintro ⟨q, x, h7, -⟩; cases h7), ef]
    · rw [hs.lt] at h2
      have ef : fdc cb e (m + 1) p x2 = (2, e) := by
        unfold fdc
        rw [if_pos (by omega)]
      refine y_fail hT hX hc hb (c := 2) (w := e) ?_ rfl hs.ix.2.1
      rw [hR ?_, ef]
      rintro ⟨q, x, h7, h8⟩
      have := rdc_p h7
      omega
theorem pCx_s {x : Int64} (h1 : rC cb p = some (q, x)) (h2 : q ≤ e) : pCx cb e p = .ok q := mkP_s rC_fn ⟨x, h1⟩ h2
theorem pCx_n (h1 : ¬ ∃ q x, rC cb p = some (q, x) ∧ q ≤ e) : pCx cb e p = .error (fC cb e p) := mkP_n (fun ⟨q, ⟨x, h2⟩, h3⟩ => h1 ⟨q, x, h2, h3⟩)
theorem y_count {Qr : Int32 → xb_H → Nat → Nat → Prop} (hT : rdT h0 rd op md rc rs b R Qt) (hX : rd_X h0 h rd op md) (hs : rq h rd md cd N b p e cb) (hc : rc + 1 ≤ bc) (hb : rs + 6 ≤ bs) (hR : R = (pCx cb e p).bind K)
    (hQ : ∀ (u v : Int32) (q : Nat) (x : Int64), rC cb p = some (q, x) → p < q → q ≤ e → u.toBitVec.toNat = cV cb p → v.toInt + b = q → R = K q → Qr u (xb_I h rd 3 v) bc bs) : w_Reader_count rd h bc bs Qr Qt := by
  unfold w_Reader_count
  refine ⟨5, y_countL hT hc hb 4 0 0 h p 0 hX hs rfl (by omega) rfl (fun h9 => by rw [hR, pCx_n h9]; rfl) (fun u v q x g1 g2 g3 g4 g5 => hQ u v q x g1 g2 g3 ?_ g5 (by rw [hR, pCx_s g1 g3]; rfl))⟩
  have := rC_b g1
  rw [g4, (rC_E g1).2]
  omega
end CR1
