-- equality: instantiate, elements and bytes
section HW
variable {own ad own' ad' ad1 : Nat → Nat} {H H' h1 : xb_H} {W : wD} {σ mc m md q i k κ : Nat} {d : mD} {ms : Nat → Nat} {φ φm Φ : Nat → Nat → Int32} {ℓ Λ : Nat → Nat → Int64} {v v5 w : Nat → Int32} {DM : Nat → zM} {r4 y4 r7 y7 : Int64} {cn : Nat → Int64} {M : Nat → mD} {h : xb_H} {ow : Nat → Nat}
/-- an element in both -/
def elQ (c r : Int) : Prop := (c = -1 ∧ r = 0) ∨ ∃ f : Nat, c = f ∧ r = (fmp f + 1 : Nat)
theorem in_el (hF : rFn φ ℓ v DM m r4 y4 r7 y7 cn w φm Φ Λ v5) (hE : cEl ad1 h1 W (wN1 W md d q ms) d ad' H') (hq : mdQ d (DM m)) (hR : mdR (DM m)) (hV : MV0 (DM m)) (hmo : mo ow h md d) (o4 : olV (DM m) 4 r4 y4) (hold : ∀ e, e < wne W → ((xb_l H (ad 24) e).toInt = -1 ∧ φ 51 e = 0) ∨ ∃ f : Nat, (xb_l H (ad 24) e).toInt = f ∧ vf W f ∧ (φ 51 e).toInt = (fmp f + 1 : Nat)) (l24 : xb_l h1 (ad1 24) = xb_l H (ad 24)) (hcv : ∀ p, knQ d (DM m) p → cv ad1 h1 d p = cn (qb (DM m) + p)) (hrg : ∀ k, k < qt (DM m) 9 → 0 ≤ (cv ad1 h1 d (dvs d 7 (5 * k + 2)).toInt.toNat).toInt ∧ (cv ad1 h1 d (dvs d 7 (5 * k + 2)).toInt.toNat).toInt < 4294967296) (hfn : ∀ k, k < nf d → mnV id φm DM (vN v 30) 0 k = fmp (fnI H' (wN1 W md d q ms) (wic W) k)) (htb : 0 < dn d 3 / 3 → (φm 48 (oV id φm DM (vN v 30) 1).toInt.toNat).toInt = tbF H' (wN1 W md d q ms) (wic W)) (hWE : wE ad' H' (wN1 W md d q ms)) (c1 : vN v 47 = wne W) :
    ∀ e, e < wne (wN1 W md d q ms) → ((xb_l H' (ad' 24) e).toInt = -1 ∧ Φ 51 e = 0) ∨ ∃ f : Nat, (xb_l H' (ad' 24) e).toInt = f ∧ vf (wN1 W md d q ms) f ∧ (Φ 51 e).toInt = (fmp f + 1 : Nat) := by
  intro e he
  obtain ⟨base, b1, b2, b3⟩ := hE
  have he' : e < wne W + (ol d 3 1).toNat := he
  have n7 := hq.n7.1
  have l1 := (hq.ol3 hmo o4).1
  have key : elQ (xb_l H' (ad' 24) e).toInt (Φ 51 e).toInt := by
    rw [b3 e, hF.2.2.2.2.1 e, show dn d 7 / 5 = qt (DM m) 9 by omega]
    refine wrr_rel (R := elQ) _ (fun j hj => ?_) (fun j hj t ht => ?_) (fun j hj t ht => ?_) ?_
    · obtain ⟨p, f, p1, p2, p3, p4, p5, p6⟩ := hq.k7 hR hV hj
      unfold elL
      rw [p5, Int.toNat_natCast]
    · obtain ⟨p, f, p1, p2, p3, p4, p5, p6⟩ := hq.k7 hR hV hj
      have hr9 := hrg j hj
      rw [p1, Int.toNat_natCast] at hr9 ⊢
      have hex : 0 < dn d 3 / 3 := by
        have := (hmo.2.1.2.2.2.2.2.2.2.1.2 j (by omega)).1
        omega
      rw [htb hex, Int.toNat_natCast, ← p2, ← hcv p p3, Z_low4 hr9.1 hr9.2]
    · obtain ⟨p, f, p1, p2, p3, p4, p5, p6⟩ := hq.k7 hR hV hj
      have ht' : t < cV (qc (DM m)) (rwE (DM m) 9 j) := by
        unfold elL at ht
        rw [p5, Int.toNat_natCast] at ht
        exact ht
      have p6' := p6 t ht'
      obtain ⟨-, -, -, hit⟩ := hmo.2.1.2.2.2.2.2.2.2.1.2 j (by omega)
      obtain ⟨q', x1, x2, x3⟩ := hit t (by rw [p5]; omega)
      have eq' : q' = f + t := by omega
      subst eq'
      rw [p4, Int.toNat_natCast]
      refine .inr ⟨_, rfl, ?_⟩
      rw [p6', Int.toNat_natCast]
      have hlt : cV (qc (DM m)) ((cks (qc (DM m)) t (cE (qc (DM m)) (rwE (DM m) 9 j))).getD 0) < nf d := by
        unfold nf
        omega
      rw [hfn _ hlt]
    · rcases Nat.lt_or_ge e (wne W) with h9 | h9
      · rw [b1 e h9, if_neg (by omega), l24]
        rcases hold e h9 with ⟨x1, x2⟩ | ⟨f, x1, -, x2⟩
        · exact .inl ⟨x1, by rw [x2]; rfl⟩
        · exact .inr ⟨f, x1, x2⟩
      · rw [b2 e h9 he']
        have ht4 : e < vN v 47 + (if qt (DM m) 4 = 0 then 0 else r4.toInt.toNat) := by
          by_cases h8 : qt (DM m) 4 = 0
          · exfalso
            have : r4 = 0 := by
              rcases o4 with ⟨-, x, -⟩ | ⟨x, -⟩
              · exact x
              · omega
            rw [this] at l1
            have : (0 : Int64).toInt = 0 := rfl
            omega
          · rw [if_neg h8, ← l1]
            omega
        rw [if_pos ⟨by omega, ht4⟩]
        exact .inl ⟨rfl, rfl⟩
  rcases key with ⟨x1, x2⟩ | ⟨f, x1, x2⟩
  · exact .inl ⟨x1, z_eq.mpr x2⟩
  · right
    rcases hWE.2.2 e he with y1 | ⟨f', y1, y2⟩
    · omega
    · have : f' = f := by omega
      subst this
      exact ⟨f', x1, y2, x2⟩
theorem mpA_lt {sl : Nat → Int32} {p pc np : Nat} (hp : p < 65536 * pc) (hs : ∀ j, j < pc → 0 ≤ (sl j).toInt ∧ (sl j).toInt < (np : Nat)) : mpA sl p < 65536 * np := by
  have h1 := hs (p / 65536) (by omega)
  unfold mpA
  have h2 : (sl (p / 65536)).toInt.toNat + 1 ≤ np := by omega
  have h3 := Nat.mul_le_mul_left 65536 h2
  have h4 : p % 65536 < 65536 := Nat.mod_lt _ (by decide)
  rw [Nat.mul_add] at h3
  omega
theorem mpA_c {sl sl' : Nat → Int32} {p pc : Nat} (hp : p < 65536 * pc) (hs : ∀ j, j < pc → sl j = sl' j) : mpA sl p = mpA sl' p := by
  unfold mpA
  rw [hs (p / 65536) (by omega)]
theorem in_by (hF : rFn φ ℓ v DM m r4 y4 r7 y7 cn w φm Φ Λ v5) (hD : cDa ad1 h1 W (wN1 W md d q ms) d ad' H') (hq : mdQ d (DM m)) (hR : mdR (DM m)) (hV : MV0 (DM m)) (hmo : mo ow h md d) (hold : (∀ a, a < 65536 * wnp W → byR (φ 57) a = byA (xb_l H (ad 26)) a) ∧ ∀ a, 65536 * wnp W ≤ a → a < 1048576 → byR (φ 57) a = 0) (l26 : xb_l h1 (ad1 26) = xb_l H (ad 26)) (hcv : ∀ p, knQ d (DM m) p → cv ad1 h1 d p = cn (qb (DM m) + p)) (hrg : ∀ k, k < qt (DM m) 11 → 0 ≤ (cv ad1 h1 d (dvs d 11 (5 * k + 2)).toInt.toNat).toInt ∧ (cv ad1 h1 d (dvs d 11 (5 * k + 2)).toInt.toNat).toInt < 4294967296) (hfit : ∀ k, k < qt (DM m) 11 → (cn (cE (qc (DM m)) (qp (DM m) 11 k)) &&& 4294967295).toInt + cV (qc (DM m)) (rwE (DM m) 11 k) ≤ 65536 * (mmP H' (wN1 W md d q ms) (wic W) : Int))
    (hmm : 0 < dn d 4 / 3 → (∀ j, j < mmP H' (wN1 W md d q ms) (wic W) → Φ 56 (16 * gmV id φm DM (vN v 30) + j) = xb_i H' (mmS H' (wN1 W md d q ms) (wic W)) j) ∧ ∀ j, j < mmP H' (wN1 W md d q ms) (wic W) → 0 ≤ (xb_i H' (mmS H' (wN1 W md d q ms) (wic W)) j).toInt ∧ (xb_i H' (mmS H' (wN1 W md d q ms) (wic W)) j).toInt < (wnp (wN1 W md d q ms) : Nat)) (hnp : wnp (wN1 W md d q ms) ≤ 16) :
    (∀ a, a < 65536 * wnp (wN1 W md d q ms) → byR (Φ 57) a = byA (xb_l H' (ad' 26)) a) ∧ ∀ a, 65536 * wnp (wN1 W md d q ms) ≤ a → a < 1048576 → byR (Φ 57) a = 0 := by
  obtain ⟨base, b1, b2, b3⟩ := hD
  have e1 : wnp (wN1 W md d q ms) = wnp W + (ol d 4 2).toNat := rfl
  have n11 := hq.n7.2
  have n11' : dn d 11 / 5 = qt (DM m) 11 := by omega
  have hcx := hq.cx.1.1
  -- a row's place in the memory
  have pl : ∀ j, j < qt (DM m) 11 → ∀ t, t < cV (qc (DM m)) (rwE (DM m) 11 j) → 0 < dn d 4 / 3 ∧ (cn (cE (qc (DM m)) (qp (DM m) 11 j)) &&& 4294967295).toInt.toNat + t < 65536 * mmP H' (wN1 W md d q ms) (wic W) ∧ (cv ad1 h1 d (dvs d 11 (5 * j + 2)).toInt.toNat).toInt.toNat = (cn (cE (qc (DM m)) (qp (DM m) 11 j)) &&& 4294967295).toInt.toNat := fun j hj t ht => by
    obtain ⟨p, f, p1, p2, p3, p4, p5, p6, p7⟩ := hq.k11 hR hV hj
    have hr9 := hrg j hj
    have hf9 := hfit j hj
    rw [p1, Int.toNat_natCast] at hr9 ⊢
    have hex : 0 < dn d 4 / 3 := by
      have := (hmo.2.1.2.2.2.2.2.2.2.2.2.1.2 j (by omega)).1
      omega
    rw [← p2, ← hcv p p3, Z_low4 hr9.1 hr9.2] at hf9 ⊢
    exact ⟨hex, by omega, rfl⟩
  have pl2 : ∀ j, j < qt (DM m) 11 → ∀ t, t < cV (qc (DM m)) (rwE (DM m) 11 j) → mpA (xb_i H' (mmS H' (wN1 W md d q ms) (wic W))) ((cn (cE (qc (DM m)) (qp (DM m) 11 j)) &&& 4294967295).toInt.toNat + t) = mpA (fun c => Φ 56 (16 * (oV id φm DM (vN v 30) 2).toInt.toNat + c)) ((cn (cE (qc (DM m)) (qp (DM m) 11 j)) &&& 4294967295).toInt.toNat + t) := fun j hj t ht => by
    obtain ⟨x1, x2, x3⟩ := pl j hj t ht
    exact mpA_c x2 (fun c hc => ((hmm x1).1 c hc).symm)
  refine ⟨fun a ha => ?_, fun a ha ha2 => ?_⟩
  · rw [b3 a, hF.2.2.2.2.2.1 a, n11']
    refine wrr_rel (R := Eq) _ (fun j hj => ?_) (fun j hj t ht => ?_) (fun j hj t ht => ?_) ?_
    · obtain ⟨p, f, p1, p2, p3, p4, p5, p6, p7⟩ := hq.k11 hR hV hj
      unfold daL
      rw [p6, Int.toNat_natCast]
    · obtain ⟨x1, x2, x3⟩ := pl j hj t ht
      show mpA _ _ = mpA _ _
      rw [x3]
      exact (pl2 j hj t ht).symm
    · obtain ⟨p, f, p1, p2, p3, p4, p5, p6, p7⟩ := hq.k11 hR hV hj
      unfold daX
      rw [p4, Int.toNat_natCast, hcx (f + t) (by omega), ← p5, Nat.add_assoc]
    · rcases Nat.lt_or_ge a (65536 * wnp W) with h9 | h9
      · rw [b1 a h9, l26]
        exact hold.1 a h9
      · rw [b2 a h9 (by omega)]
        exact hold.2 a h9 (by omega)
  · rw [hF.2.2.2.2.2.1 a]
    rw [wrr_ne]
    · exact hold.2 a (by omega) ha2
    · intro j hj t ht
      obtain ⟨x1, x2, x3⟩ := pl j hj t ht
      show ¬ mpA (fun c => Φ 56 (16 * (oV id φm DM (vN v 30) 2).toInt.toNat + c)) _ = a
      rw [← pl2 j hj t ht]
      have := mpA_lt x2 (hmm x1).2
      omega
end HW
