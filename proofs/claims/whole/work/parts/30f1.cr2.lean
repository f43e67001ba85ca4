-- equality: the class's reader, exact: limits, numbers
/-- a signed number's worth, as the class reckons it -/
def svC (cb : Nat → Int32) : Nat → Nat → Int64 → Int32 → Int64
  | 0, _, x, _ => x
  | m + 1, p, x, k => if 128 ≤ ub cb p then svC cb m (p + 1) (x ||| xb_lshl (Int32.toInt64 (ub cb p &&& 127)) (7 * k)) (k + 1) else
    xb_lshr (xb_lshl (x ||| xb_lshl (Int32.toInt64 (ub cb p &&& 127)) (7 * k)) (if 0 < 64 - 7 * (k + 1) then 64 - 7 * (k + 1) else 0)) (if 0 < 64 - 7 * (k + 1) then 64 - 7 * (k + 1) else 0)
section CR2
variable {α : Type} {h0 : xb_H} {rd op md cd N rc rs b p q e : Nat} {cb : Nat → Int32} {R : Except (Nat × Nat) α} {Qt : String → xb_H → Nat → Nat → Prop} {h : xb_H} {bc bs : Nat} {K : Nat → Except (Nat × Nat) α}
theorem rq.rg (hs : rq h rd md cd N b p e cb) : b ≤ p ∧ p ≤ e ∧ e ≤ b + N ∧ N ≤ 65536 := by
  obtain ⟨h1, h2, ⟨k1, k2, k3, k4, k5, k6, k7, k8, k9, k10, k11, k12⟩, -⟩ := hs
  omega
theorem rq.lim {v : Int32} (hs : rq h rd md cd N b p e cb) (hq : v.toInt + b = q) (h0 : p ≤ q) (h1 : q ≤ b + N) : rq (xb_I h rd 4 v) rd md cd N b p q cb := by
  obtain ⟨h1', h2, h3, h4, h5⟩ := hs
  refine ⟨h1', by omega, ?_, h4, fun j hj => ?_⟩
  · have := h3.lim (v := v) (by omega) (by omega)
    rw [show v.toInt = ((q - b : Nat) : Int) by omega] at this
    exact this
  · rw [xh_iI, if_neg h4]
    exact h5 j hj
/-- a size that was read against what is left -/
theorem rq.sz {x : Int32} {n : Nat} (hs : rq h rd md cd N b p e cb) (hx : x.toBitVec.toNat = n) : (x < 0 → e < p + n) ∧ (¬ x < 0 → (x ≤ xb_i h rd 4 - xb_i h rd 3 ↔ p + n ≤ e) ∧ x.toInt = n) := by
  have hi := hs.ix
  have hr := hs.rg
  have hn := z_nat x
  have hg := z_rg x
  rw [z_lt, z_le, z_sub]
  simp only [Int32.reduceToInt]
  omega
theorem y_limitTo {x : Int32} {n : Nat} {Qr : xb_H → Nat → Nat → Prop} (hT : rdT h0 rd op md rc rs b R Qt) (hX : rd_X h0 h rd op md) (hs : rq h rd md cd N b p e cb) (hc : rc + 1 ≤ bc) (hb : rs + 6 ≤ bs) (hx : x.toBitVec.toNat = n) (hR : e < p + n → R = .error (2, e))
    (hQ : ∀ v : Int32, v.toInt + b = (p + n : Nat) → p + n ≤ e → Qr (xb_I h rd 4 v) bc bs) : w_Reader_limitTo rd x h bc bs Qr Qt := by
  obtain ⟨k1, k2, k3, k4, k5, k6, k7, k8, k9, k10, k11, k12⟩ := hs.2.2.1
  obtain ⟨z1, z2⟩ := hs.sz hx
  have hi := hs.ix
  have hr := hs.rg
  unfold w_Reader_limitTo w_Reader_limitTo_L17 w_Reader_limitTo_L29
  refine ⟨fun h1 => ⟨k1, md, k2, k3, y_fail hT hX hc hb (hR (z1 h1)) rfl hi.2.1⟩, fun h1 => ⟨k1, fun h2 => ⟨k1, fun h3 e3 => ?_⟩, fun h2 => ⟨k1, md, k2, k3, y_fail hT hX hc hb (hR ?_) rfl hi.2.1⟩⟩⟩
  · rw [(z2 h1).1] at h2
    have e1 : (xb_i h rd 3 + x).toInt + b = (p + n : Nat) := by
      have := (z2 h1).2
      rw [z_add, this]
      omega
    rw [e3]
    exact hQ _ e1 h2
  · rw [(z2 h1).1] at h2
    omega
theorem y_endsSigned {x0 x1 bits : Int32} {Qr : Int32 → xb_H → Prop} (hb : x1 = 5 ↔ bits = 32) (hx : 0 ≤ x0.toInt) (hQ : ∀ r : Int32, (r ≠ 0 ↔ ((bits = 32 ∧ (x0 < 8 ∨ (¬ x0 < 120 ∧ ¬ 128 ≤ x0))) ∨ (¬ bits = 32 ∧ (x0 = 0 ∨ x0 = 127)))) → Qr r h) : w_Reader_endsSigned x0 x1 h Qr := by
  unfold w_Reader_endsSigned w_Reader_endsSigned_L39 w_Reader_endsSigned_L27 w_Reader_endsSigned_L23 w_Reader_endsSigned_L28 w_Reader_endsSigned_L44
  have q0 : ¬ ((bits = 32 ∧ (x0 < 8 ∨ (¬ x0 < 120 ∧ ¬ 128 ≤ x0))) ∨ (¬ bits = 32 ∧ (x0 = 0 ∨ x0 = 127))) → Qr 0 h := fun h9 => hQ 0 ⟨fun h8 => absurd rfl h8, fun h8 => absurd h8 h9⟩
  have q1 : ((bits = 32 ∧ (x0 < 8 ∨ (¬ x0 < 120 ∧ ¬ 128 ≤ x0))) ∨ (¬ bits = 32 ∧ (x0 = 0 ∨ x0 = 127))) → Qr 1 h := fun h9 => hQ 1 ⟨fun _ => h9, fun _ => by decide⟩
  rw [hb]
  have l8 : x0 ≤ 7 ↔ x0 < 8 := by
    rw [z_le, z_lt]
    simp only [Int32.reduceToInt]
    omega
  have l128 : 127 < x0 ↔ 128 ≤ x0 := by
    rw [z_le, z_lt]
    simp only [Int32.reduceToInt]
    omega
  rw [l8, l128]
  refine ⟨fun h1 => ⟨fun h2 => ⟨.inr rfl, q1 (.inr ⟨h1, .inl h2⟩)⟩, fun h2 => ⟨fun h3 => ⟨.inl rfl, q0 ?_⟩, fun h3 => ⟨.inr rfl, q1 (.inr ⟨h1, .inr h3⟩)⟩⟩⟩, fun h1 => ⟨fun h2 => ⟨.inr rfl, q1 (.inl ⟨h1, .inl h2⟩)⟩, fun h2 => ⟨fun h3 => ⟨.inl rfl, q0 ?_⟩, fun h3 => ⟨fun h4 => ⟨.inl rfl, q0 ?_⟩, fun h4 => ⟨.inr rfl, q1 (.inl ⟨h1, .inr ⟨h3, h4⟩⟩)⟩⟩⟩⟩⟩
  · rintro (h4 | h4)
    · exact h1 h4.1
    · exact h4.2.elim h2 h3
  · rintro (h4 | h4)
    · exact h4.2.elim h2 (fun h5 => h5.1 h3)
    · exact h4.1 h1
  · rintro (h5 | h5)
    · exact h5.2.elim h2 (fun h6 => h6.2 h4)
    · exact h5.1 h1
theorem rds_p {bits : Int32} {m p q : Nat} (h7 : rds cb bits m p = some q) : p < q := (rds_b h7).1
theorem y_signedL {Qr : Int64 → xb_H → Nat → Nat → Prop} (hT : rdT h0 rd op md rc rs b R Qt) (hc : rc + 1 ≤ bc) (hb : rs + 6 ≤ bs) {x1 bits : Int32} (hbit : x1 = 5 ↔ bits = 32) : ∀ (m : Nat) (x2 : Int64) (x4 x5 : Int32) (h : xb_H) (p : Nat), rd_X h0 h rd op md → rq h rd md cd N b p e cb → x1.toInt = x5.toInt + m + 1 → 0 ≤ x5.toInt → x1.toInt ≤ 10 →
    ((¬ ∃ q, rds cb bits (m + 1) p = some q ∧ q ≤ e) → R = .error (fds cb e bits (m + 1) p)) →
    (∀ (u : Int64) (v : Int32) (q : Nat), rds cb bits (m + 1) p = some q → p < q → q ≤ e → u = svC cb (m + 1) p x2 x5 → v.toInt + b = q → Qr u (xb_I h rd 3 v) bc bs) → w_Reader_signed_L8 Qr Qt (m + 1) rd x1 x2 x4 x5 h bc bs
  | m, x2, x4, x5, h, p, hX, hs, h1', h5', h10, hR, hQ => by
    obtain ⟨k1, k2, k3, k4, k5, k6, k7, k8, k9, k10, k11, k12⟩ := hs.2.2.1
    have hu := ub_r (cb := cb) (p := p)
    unfold w_Reader_signed_L8 w_Reader_signed_L37 w_Reader_signed_L81 w_Reader_signed_L132
    have em : x5 = x1 - 1 ↔ m = 0 := by
      rw [z_eq, z_sub, h1']
      simp only [Int32.reduceToInt]
      have := z_rg x5
      omega
    refine ⟨fun h1 => ?_, fun h1 => ⟨k1, fun h2 => ⟨k1, cd, k4, k5, hs.in (hs.lt.mp h2), fun v5 e5 => ?_⟩, fun h2 => ⟨md, k2, k3, ?_⟩⟩⟩
    · rw [z_le] at h1
      omega
    · have h2p := hs.lt.mp h2
      rw [hs.by h2p] at e5
      have e5' : v5 = ub cb p := e5
      subst e5'
      have go : ¬ (m = 0 ∧ ¬ ((bits = 32 ∧ (ub cb p < 8 ∨ (¬ ub cb p < 120 ∧ ¬ 128 ≤ ub cb p))) ∨ (¬ bits = 32 ∧ (ub cb p = 0 ∨ ub cb p = 127)))) → xb_k h rd = 4 ∧ ∀ h2 : xb_H, h2 = xb_I h rd 3 (xb_i h rd 3 + 1) → ∀ v3 : Int64, v3 = x2 ||| xb_lshl (Int32.toInt64 (ub cb p &&& 127)) (7 * x5) → ∀ v4 : Int32, v4 = 7 * (x5 + 1) → (((128 : Int32) ≤ ub cb p → w_Reader_signed_L8 Qr Qt m rd x1 v3 v4 (x5 + 1) h2 bc bs) ∧ (¬ (128 : Int32) ≤ ub cb p → ∀ v1 : Int32, v1 = (if 0 < 64 - v4 then 64 - v4 else 0) → Qr (xb_lshr (xb_lshl v3 v1) v1) h2 bc bs)) := by
        intro hcn
        refine ⟨k1, fun h2 e3 v3 ev v4 ev4 => ⟨fun h128 => ?_, fun h128 v1 ev1 => ?_⟩⟩
        · subst e3 ev
          match m, h1', hR, hQ, hcn with
          | 0, h1', hR, hQ, hcn =>
            exfalso
            refine hcn ⟨rfl, ?_⟩
            rw [z_le] at h128
            simp only [Int32.reduceToInt] at h128
            rintro (⟨-, h9 | ⟨-, h9⟩⟩ | ⟨-, h9 | h9⟩)
            · rw [z_lt] at h9
              simp only [Int32.reduceToInt] at h9
              omega
            · exact h9 (by rw [z_le]; exact h128)
            · rw [h9] at h128
              simp only [Int32.reduceToInt] at h128
              omega
            · rw [h9] at h128
              simp only [Int32.reduceToInt] at h128
              omega
          | m + 1, h1', hR, hQ, hcn =>
            have er : rds cb bits (m + 1 + 1) p = rds cb bits (m + 1) (p + 1) := by
              conv => lhs; unfold rds
              rw [if_neg hcn, if_pos h128]
            have ef : fds cb e bits (m + 1 + 1) p = fds cb e bits (m + 1) (p + 1) := by
              conv => lhs; unfold fds
              rw [if_neg (by omega), if_neg hcn]
            have es : svC cb (m + 1 + 1) p x2 x5 = svC cb (m + 1) (p + 1) (x2 ||| xb_lshl (Int32.toInt64 (ub cb p &&& 127)) (7 * x5)) (x5 + 1) := by
              conv => lhs; unfold svC
              rw [if_pos h128]
            rw [er] at hR hQ
            rw [ef] at hR
            rw [es] at hQ
            have e5 : (x5 + 1).toInt = x5.toInt + 1 := by
              rw [z_add]
              simp only [Int32.reduceToInt]
              have := z_rg x5
              omega
            refine y_signedL hT hc hb hbit m _ v4 (x5 + 1) _ (p + 1) (hX.I (.inl rfl)) (hs.at (hs.inc h2p) (by have := hs.1; omega) h2p) (by omega) (by omega) h10 hR (fun u v q g1 g2 g3 g4 g5 => ?_)
            rw [xh_II]
            exact hQ u v q g1 (by omega) g3 g4 g5
        · subst e3
          have er : rds cb bits (m + 1) p = some (p + 1) := by
            unfold rds
            rw [if_neg hcn, if_neg h128]
          refine hQ _ _ (p + 1) er (by omega) h2p ?_ (hs.inc h2p)
          unfold svC
          rw [if_neg h128, ev1, ev4, ev]
      refine ⟨fun h9 => go (fun h8 => h9 (em.mpr h8.1)), fun h9 => y_endsSigned (bits := bits) hbit (by omega) (fun r hr _ => ⟨fun hn => go (fun h8 => h8.2 (hr.mp hn)), fun h0 => ⟨md, k2, k3, y_fail (w := p) (c := 3) hT hX hc hb ?_ rfl hs.ix.1⟩⟩)⟩
      have h8 : m = 0 ∧ ¬ ((bits = 32 ∧ (ub cb p < 8 ∨ (¬ ub cb p < 120 ∧ ¬ 128 ≤ ub cb p))) ∨ (¬ bits = 32 ∧ (ub cb p = 0 ∨ ub cb p = 127))) := ⟨em.mp h9, fun h7 => hr.mpr h7 h0⟩
      have er : rds cb bits (m + 1) p = none := by
        unfold rds
        rw [if_pos h8]
      have ef : fds cb e bits (m + 1) p = (3, p) := by
        unfold fds
        rw [if_neg (by omega), if_pos h8]
      rw [hR (by rw [er]; rintro ⟨q, h7, -⟩; cases h7), ef]
    · rw [hs.lt] at h2
      have ef : fds cb e bits (m + 1) p = (2, e) := by
        unfold fds
        rw [if_pos (by omega)]
      refine y_fail hT hX hc hb (c := 2) (w := e) ?_ rfl hs.ix.2.1
      rw [hR ?_, ef]
      rintro ⟨q, h7, h8⟩
      have := rds_p h7
      omega
theorem y_signed {x1 bits : Int32} {n : Nat} {Qr : Int64 → xb_H → Nat → Nat → Prop} (hT : rdT h0 rd op md rc rs b R Qt) (hX : rd_X h0 h rd op md) (hs : rq h rd md cd N b p e cb) (hc : rc + 1 ≤ bc) (hb : rs + 6 ≤ bs) (hx : (x1 = 5 ∧ bits = 32 ∧ n = 5) ∨ (x1 = 10 ∧ bits = 64 ∧ n = 10)) (hR : (¬ ∃ q, rds cb bits n p = some q ∧ q ≤ e) → R = .error (fds cb e bits n p))
    (hQ : ∀ (v : Int32) (q : Nat), rds cb bits n p = some q → p < q → q ≤ e → v.toInt + b = q → Qr (svC cb n p 0 0) (xb_I h rd 3 v) bc bs) : w_Reader_signed rd x1 h bc bs Qr Qt := by
  unfold w_Reader_signed
  rcases hx with ⟨e1, e2, e3⟩ | ⟨e1, e2, e3⟩
  · subst e1 e2 e3
    exact ⟨5, y_signedL hT hc hb (by decide) 4 0 0 0 h p hX hs rfl (by decide) (by decide) hR (fun u v q g1 g2 g3 g4 g5 => by rw [g4]; exact hQ v q g1 g2 g3 g5)⟩
  · subst e1 e2 e3
    exact ⟨10, y_signedL hT hc hb (by decide) 9 0 0 0 h p hX hs rfl (by decide) (by decide) hR (fun u v q g1 g2 g3 g4 g5 => by rw [g4]; exact hQ v q g1 g2 g3 g5)⟩
theorem and255_64 (x : Int32) : Int32.toInt64 x &&& 255 = Int32.toInt64 (x &&& 255) := by
  apply Int64.toBitVec_inj.mp
  apply BitVec.eq_of_toNat_eq
  have e1 : (x &&& 255).toInt = x.toInt % 256 := z_255 x
  have e2 := Z_nat (Int32.toInt64 (x &&& 255))
  rw [Z_of32, e1] at e2
  rw [Z_and, show (255 : Int64).toBitVec.toNat = 2 ^ 8 - 1 from rfl, Nat.and_two_pow_sub_one_eq_mod]
  have e3 := Z_nat (Int32.toInt64 x)
  rw [Z_of32] at e3
  omega
theorem y_plainL {Qr : Int64 → xb_H → Nat → Nat → Prop} {x1 : Int32} {n : Nat} (hs : rq h rd md cd N b p e cb) (h1 : x1.toInt = n) (hl : p + n ≤ e)
    (hQ : ∀ v : Int32, v.toInt + b = (p + n : Nat) → Qr (byv cb n p 0 0) (xb_I h rd 3 v) bc bs) : ∀ (m j : Nat) (x2 : Int64) (x4 : Int32), x4.toInt = j → j + m = n → byv cb n p 0 0 = byv cb m (p + j) x2 x4 → w_Reader_plainBytes_L30 Qr Qt (m + 1) rd x1 x2 x4 h bc bs
  | m, j, x2, x4, h4, hm, hv => by
    obtain ⟨k1, k2, k3, k4, k5, k6, k7, k8, k9, k10, k11, k12⟩ := hs.2.2.1
    have hi := hs.ix
    have hr := hs.rg
    unfold w_Reader_plainBytes_L30
    refine ⟨fun h2 => ⟨k1, fun h3 e3 => ?_⟩, fun h2 => ⟨k1, cd, k4, k5, ?_, fun v8 e8 => ?_⟩⟩
    · rw [z_le] at h2
      have m0 : m = 0 := by omega
      subst m0
      have : x2 = byv cb n p 0 0 := hv.symm
      rw [e3, this]
      refine hQ _ ?_
      rw [z_add, h1]
      omega
    · rw [z_le] at h2
      rw [z_in, z_add, h4, k6]
      omega
    · rw [z_le] at h2
      have e2 : (x4 + 1).toInt = (j + 1 : Nat) := z_inc h4 (by omega)
      have ei : (xb_i h rd 3 + x4).toInt = ((p - b + j : Nat) : Int) := by
        rw [z_add, h4, k7]
        omega
      match m, hm, hv with
      | 0, hm, hv => omega
      | m + 1, hm, hv =>
        refine y_plainL hs h1 hl hQ m (j + 1) v8 (x4 + 1) e2 (by omega) ?_
        rw [hv, e8, z_cl, ei, Int.toNat_natCast, hs.2.2.2.2 _ (by omega), show b + (p - b + j) = p + j by omega, and255_64]
        rfl
theorem y_plainBytes {x1 : Int32} {n : Nat} {Qr : Int64 → xb_H → Nat → Nat → Prop} (hT : rdT h0 rd op md rc rs b R Qt) (hX : rd_X h0 h rd op md) (hs : rq h rd md cd N b p e cb) (hc : rc + 1 ≤ bc) (hb : rs + 6 ≤ bs) (hx : x1.toInt = n) (hR : e < p + n → R = .error (2, e))
    (hQ : ∀ v : Int32, v.toInt + b = (p + n : Nat) → p + n ≤ e → Qr (byv cb n p 0 0) (xb_I h rd 3 v) bc bs) : w_Reader_plainBytes rd x1 h bc bs Qr Qt := by
  obtain ⟨k1, k2, k3, k4, k5, k6, k7, k8, k9, k10, k11, k12⟩ := hs.2.2.1
  have hi := hs.ix
  have hr := hs.rg
  have hg := z_rg x1
  unfold w_Reader_plainBytes w_Reader_plainBytes_L25
  refine ⟨k1, fun h1 => ⟨n + 1, ?_⟩, fun h1 => ⟨md, k2, k3, y_fail hT hX hc hb (hR ?_) rfl hi.2.1⟩⟩
  · rw [z_le, z_sub, hx] at h1
    have hl : p + n ≤ e := by omega
    exact y_plainL hs hx hl (fun v hv => hQ v hv hl) n 0 0 0 rfl (by omega) rfl
  · rw [z_le, z_sub, hx] at h1
    omega
end CR2
