-- equality: instantiate, rows that fit, in both
section HS
variable {own ad own1 ad1 A A2 : Nat → Nat} {H h1 h3 : xb_H} {W : wD} {σ ts K mc m k s md ip : Nat} {M : Nat → mD} {v u3 w : Nat → Int32} {y r4 y4 r7 y7 : Int64} {DM : Nat → zM} {len : Nat} {vv : Nat → Nat} {d : mD} {D : zM} {G F : Nat → Nat → Int32} {h : xb_H} {Hz : Int}
theorem rowP_L {E p3 : Nat} {L : Int64} (hr : rowP D s k E p3 L) : L.toInt = cV (qc D) (rwE D s k) := by
  have h1 := hr.f.2
  have h2 := (rC_b hr.2.2.1).2.2.2
  omega
theorem rowP_c (hR : mdR D) (hV : MV0 D) (hs : s = 9 ∨ s = 11) (hk : k < qt D s) : ∃ E p3 L, rowP D s k E p3 L := by
  obtain ⟨p1, x, E, p3, L, -, -, -, hr, -⟩ := hR.row hs hk ⟨fun e => hV.2.2.2.2.2.1 k (by rw [← e]; exact hk), fun e => hV.2.2.2.2.2.2 k (by rw [← e]; exact hk)⟩
  exact ⟨E, p3, L, hr⟩
/-- a row fits -/
def fit (A : Nat → Nat) (h : xb_H) (F : Nat → Nat → Int32) (D : zM) (ip s : Nat) (Hz : Int) (k : Nat) : Prop := (cnV A h F D ip (cE (qc D) (qp D s k)) &&& 4294967295).toInt + cV (qc D) (rwE D s k) ≤ Hz
theorem rfA_i (hR : mdR D) (hV : MV0 D) (hs : s = 9 ∨ s = 11) : rfA A h F D ip s Hz ↔ ∀ k, k < qt D s → fit A h F D ip s Hz k := by
  constructor
  · intro h9 k hk
    obtain ⟨E, p3, L, hr⟩ := rowP_c hR hV hs hk
    have := h9 k hk E p3 L hr
    rw [rowP_L hr] at this
    exact this
  · intro h9 k hk E p3 L hr
    rw [rowP_L hr]
    exact h9 k hk
theorem rfT_i (hR : mdR D) (hV : MV0 D) (hs : s = 9 ∨ s = 11) (h9 : rfT A h F D ip s Hz k) : k < qt D s ∧ (∀ j, j < k → fit A h F D ip s Hz j) ∧ ¬ fit A h F D ip s Hz k := by
  obtain ⟨a1, a2, E, p3, L, hr, a3⟩ := h9
  refine ⟨a1, fun j hj => ?_, fun h8 => ?_⟩
  · obtain ⟨E', p3', L', hr'⟩ := rowP_c hR hV hs (k := j) (by omega)
    have := a2 j hj E' p3' L' hr'
    rw [rowP_L hr'] at this
    exact this
  · rw [rowP_L hr] at a3
    unfold fit at h8
    omega
theorem oV_nw {F0 : Nat → Nat → Int32} {κ : Nat} (hN : iNw A h F0 v DM m r4 y4 r7 y7 A2 h3 G) : oV A2 G DM (vN v 30) κ = if 0 < iM (DM m) κ then G (A2 33) (vN v 34 + ikx (DM m) κ (qt (DM m) 2) 0) else if κ = 1 then G (A2 37) (vN v 30) else G (A2 38) (vN v 30) := by
  unfold oV
  rw [hN.1.1, hN.1.2.1, Int.toNat_natCast, Int.toNat_natCast]
/-- how long the table is -/
theorem ln_eS (hW : wI own ad H W σ) (hB : cB own ad H) (hq : mdQ d (DM m)) (hmo : mo own h md d) (hst : stQ H ad W id (fun k => xb_i H (A k)) DM (xb_l H (A 55))) (hic : vN v 30 = wic W) (h3' : W3 (fun k => xb_i H (A k)) v DM) (hlk : lkR own ad own1 ad1 H h1) (hl : lnQ H W (fun k => xb_i H (A k)) DM (DM m) ad1 h1 (fun j => G (A2 33) (vN v 34 + j))) (o4 : olV (DM m) 4 r4 y4) (hN : iNw A H F v DM m r4 y4 r7 y7 A2 h3 G) (hr : iRf (fun k => xb_i H (A k)) (fun k => xb_l H (A k)) v (fun k => G (A2 k)) (fun k => xb_l h3 (A2 k)) u3) (h0 : 0 < iM (DM m) 1 + qt (DM m) 4) : eS ad1 h1 d = rfH A2 G DM (vN v 30) 9 := by
  unfold rfH
  rw [if_pos rfl, oV_nw hN]
  by_cases h9 : 0 < iM (DM m) 1
  · obtain ⟨i, ta, a1, a2, a3, a4, a5⟩ := hl.2.2.1.1 h9
    have hto := (hW.2.2.2.2.2.2.1.2.2.2 i a1).2.2.2.2.2.2.1.2 ta a3
    obtain ⟨t1, t2, fr, sz, t3, t4, t5⟩ := hto
    have sm := hlk.n1 hB (a := ta) (by rw [t1]; decide) (.inl (by omega))
    have s4 := (hst.2.2.2.1 i a1 a2).2
    have ez : tbZ H W i = sz := by
      unfold tbZ
      rw [a3]
      show (xb_i H ta 1).toInt.toNat = sz
      omega
    have n3 := (hst.1 i a1).1.n.2.2.1
    have hlt := h3'.o1 (i := i) (by omega) (by simp only [id] at n3; omega)
    have e1 : eS ad1 h1 d = (xb_i h1 ta 1).toInt := by
      unfold eS
      rw [a4]
    rw [e1, sm.1, if_pos h9]
    have a5' : (G (A2 33) (vN v 34 + ikx (DM m) 1 (qt (DM m) 2) 0)).toInt.toNat = (oV id (fun k => xb_i H (A k)) DM i 1).toInt.toNat := by
      have : (G (A2 33) (vN v 34 + ikx (DM m) 1 (qt (DM m) 2) 0)).toInt = _ := a5
      rw [this, Int.toNat_natCast]
    rw [a5']
    have e49 : G (A2 49) (oV id (fun k => xb_i H (A k)) DM i 1).toInt.toNat = xb_i H (A 49) (oV id (fun k => xb_i H (A k)) DM i 1).toInt.toNat := (hr.2.2.2.1 _ hlt).2.1
    have s4' : (xb_i H (A 49) (oV id (fun k => xb_i H (A k)) DM i 1).toInt.toNat).toInt = tbZ H W i := s4
    rw [e49, s4', ez, t4]
  · have e0 : iM (DM m) 1 = 0 := by omega
    have e1 : eS ad1 h1 d = ol d 3 1 := by
      unfold eS
      rw [hl.2.2.1.2 e0]
    rw [e1, (hq.ol3 hmo o4).1, if_neg h9, if_pos rfl, hN.1.2.2.2.2.1, Int.toNat_natCast, (hN.2.1 (by omega)).2.1]
/-- how long the memory is -/
theorem ln_bS (hW : wI own ad H W σ) (hB : cB own ad H) (hq : mdQ d (DM m)) (hmo : mo own h md d) (hst : stQ H ad W id (fun k => xb_i H (A k)) DM (xb_l H (A 55))) (hwq : ∀ i, i < wic W → 0 < dn (wd W i) 4 / 3 → (xb_i H (A 54) (gmV id (fun k => xb_i H (A k)) DM i)).toInt = mmP H W i) (hic : vN v 30 = wic W) (h3' : W3 (fun k => xb_i H (A k)) v DM) (hlk : lkR own ad own1 ad1 H h1) (hl : lnQ H W (fun k => xb_i H (A k)) DM (DM m) ad1 h1 (fun j => G (A2 33) (vN v 34 + j))) (o7 : olV (DM m) 5 r7 y7) (hN : iNw A H F v DM m r4 y4 r7 y7 A2 h3 G) (hr : iRf (fun k => xb_i H (A k)) (fun k => xb_l H (A k)) v (fun k => G (A2 k)) (fun k => xb_l h3 (A2 k)) u3) (h0 : 0 < iM (DM m) 2 + qt (DM m) 5) : bS ad1 h1 d = rfH A2 G DM (vN v 30) 11 := by
  unfold rfH
  rw [if_neg (by decide), oV_nw hN]
  by_cases h9 : 0 < iM (DM m) 2
  · obtain ⟨i, ma, a1, a2, a3, a4, a5⟩ := hl.2.2.2.1 h9
    have hmo' := (hW.2.2.2.2.2.2.1.2.2.2 i a1).2.2.2.2.2.2.2.2 ma a3
    obtain ⟨t1, t2, t3, t4, sl, pc, t5, t6, t7, t8, t9, t10, -⟩ := hmo'
    have sm := hlk.n1 hB (a := ma) (by rw [t1]; decide) (.inr (by omega))
    have s4 := hwq i a1 a2
    have ez : mmP H W i = pc := by
      unfold mmP mmA
      rw [a3]
      show (xb_i H ma 3).toInt.toNat = pc
      omega
    have n4 := (hst.1 i a1).1.n.2.2.2.1
    have hlt := h3'.o2 (i := i) (by omega) (by simp only [id] at n4; omega)
    have e1 : bS ad1 h1 d = 65536 * (xb_i h1 ma 3).toInt := by
      unfold bS
      rw [a4]
    rw [e1, sm.1, if_pos h9]
    have a5' : (G (A2 33) (vN v 34 + ikx (DM m) 2 (qt (DM m) 2) 0)).toInt.toNat = gmV id (fun k => xb_i H (A k)) DM i := by
      have : (G (A2 33) (vN v 34 + ikx (DM m) 2 (qt (DM m) 2) 0)).toInt = _ := a5
      rw [this, Int.toNat_natCast]
    rw [a5']
    have e54 : G (A2 54) (gmV id (fun k => xb_i H (A k)) DM i) = xb_i H (A 54) (gmV id (fun k => xb_i H (A k)) DM i) := (hr.2.2.2.2.1 _ hlt).1
    rw [e54, s4, ez, t10]
  · have e0 : iM (DM m) 2 = 0 := by omega
    have e1 : bS ad1 h1 d = 65536 * ol d 4 2 := by
      unfold bS
      rw [hl.2.2.2.2 e0]
    rw [e1, (hq.ol4 hmo o7).1, if_neg h9, if_neg (by decide), hN.1.2.2.2.2.2, Int.toNat_natCast, (hN.2.2.1 (by omega)).1]
/-- rows fit in both alike -/
theorem ln_rows (hI : cI own ad H W σ ts K) (hM : cMx own ad H mc M) (hQ : gQ ad H W mc M ts (fun k => xb_i H (A k)) (fun k => xb_l H (A k)) v y DM) (h2 : W2 (fun k => xb_i H (A k)) v len DM) (h3' : W3 (fun k => xb_i H (A k)) v DM) (h4 : W4 (fun k => xb_i H (A k)) v DM) (hm : m < mc) (hlk : lkM own ad H W (M m) vv own1 ad1 h1) (o4 : olV (DM m) 4 r4 y4) (o7 : olV (DM m) 5 r7 y7) (hN : iNw A H (xb_i H) v DM m r4 y4 r7 y7 A2 h3 G) (hr : iRf (fun k => xb_i H (A k)) (fun k => xb_l H (A k)) v (fun k => G (A2 k)) (fun k => xb_l h3 (A2 k)) u3) :
    lnQ H W (fun k => xb_i H (A k)) DM (DM m) ad1 h1 (fun j => G (A2 33) (vN v 34 + j)) ∧ (∀ p, knQ (M m) (DM m) p → cv ad1 h1 (M m) p = cnV A2 h3 G (DM m) (vN v 34) (qb (DM m) + p)) ∧ (∀ k, k < qt (DM m) 9 → (rbO ad1 h1 (M m) 7 (eS ad1 h1 (M m)) k ↔ fit A2 h3 G (DM m) (vN v 34) 9 (rfH A2 G DM (vN v 30) 9) k)) ∧ (∀ k, k < qt (DM m) 11 → (rbO ad1 h1 (M m) 11 (bS ad1 h1 (M m)) k ↔ fit A2 h3 G (DM m) (vN v 34) 11 (rfH A2 G DM (vN v 30) 11) k)) ∧ (∀ k, k < qt (DM m) 9 → 0 ≤ (cv ad1 h1 (M m) (dvs (M m) 7 (5 * k + 2)).toInt.toNat).toInt ∧ (cv ad1 h1 (M m) (dvs (M m) 7 (5 * k + 2)).toInt.toNat).toInt < 4294967296) ∧ ∀ k, k < qt (DM m) 11 → 0 ≤ (cv ad1 h1 (M m) (dvs (M m) 11 (5 * k + 2)).toInt.toNat).toInt ∧ (cv ad1 h1 (M m) (dvs (M m) 11 (5 * k + 2)).toInt.toNat).toInt < 4294967296 := by
  obtain ⟨hB, hW, -⟩ := hI.1
  obtain ⟨hq, -⟩ := hQ.2.1.q hm
  obtain ⟨md, hmd, hmo⟩ := hM.2.2.2 m hm
  have e5 : vN v 5 = mc := hQ.2.1.1
  obtain ⟨hp, hR, -, -, hV, -⟩ := h2 m (by omega)
  have hln := ln_imp hI hM hQ h2 h3' h4 hm hlk hN.2.2.2
  obtain ⟨⟨c1, c2, c3, c4⟩, -, hst, hwq⟩ := hQ.2.2.1
  have a22 : ad1 22 = ad 22 := hlk.1.2.1 22 (by decide) (by decide)
  have l22 : xb_l h1 (ad 22) = xb_l H (ad 22) := (hlk.1.cm hB (k := 22) (by decide) (by decide)).2.2.1
  have hvar : ∀ g, g < wnv W → xb_l h3 (A2 61) g = xb_l h1 (ad1 22) g := fun g hg => by
    rw [a22, l22]
    have e1 : xb_l h3 (A2 61) g = xb_l H (A 61) g := (hr.2.2.2.2.2.1 g (by omega)).2.2
    rw [e1]
    exact hwq.1 g hg
  have hcv : ∀ p, knQ (M m) (DM m) p → cv ad1 h1 (M m) p = cnV A2 h3 G (DM m) (vN v 34) (qb (DM m) + p) := fun p hk => cv_eq (w := fun j => G (A2 33) (vN v 34 + j)) hk (fun j _ => rfl) hln hvar
  have hW1 : wV ad1 h1 W := by
    obtain ⟨w1, w2, w3⟩ := hW.2.1
    have a21 : ad1 21 = ad 21 := hlk.1.2.1 21 (by decide) (by decide)
    have s21 := (hlk.1.cm hB (k := 21) (by decide) (by decide)).2
    refine ⟨by rw [a21, a22]; exact w1.fr s21 hlk.1.2.2.2.1, w2, fun g hg => ?_⟩
    rw [a22, l22]
    exact w3 g hg
  have en : dn (M m) 1 / 7 = qt (DM m) 2 := by have := hq.n1; omega
  have nn := hmo.nn
  have hF : fV ad1 h1 W (M m) (ni (M m) 3) := by
    have := hlk.2.1.2.1
    rw [nn.2.2.2.2.2.2.2 3 (by decide)]
    exact this
  have hni := nn.2.2.2.2.1 3 (by decide)
  have n7 := hq.n7
  refine ⟨hln, hcv, fun k hk => ?_, fun k hk => ?_, fun k hk => ?_, fun k hk => ?_⟩
  · obtain ⟨p, f, p1, p2, p3, -, p5, -⟩ := hq.k7 hR hV hk
    obtain ⟨-, ⟨p', q1, q2⟩, -⟩ := hmo.2.1.2.2.2.2.2.2.2.1.2 k (by omega)
    have ep : p' = p := by omega
    subst ep
    have hvr := cv_vr hW1 hF hni q2 (.inl rfl)
    rw [ln_eS hW hB hq hmo hst c1 h3' hlk.1 hln o4 hN hr (hV.2.2.2.2.2.1 k hk).1]
    unfold rbO fit
    rw [p1, Int.toNat_natCast, p5, ← p2, ← hcv p' p3, Z_low4 hvr.1 hvr.2]
  · obtain ⟨p, f, p1, p2, p3, -, -, p5, -⟩ := hq.k11 hR hV hk
    obtain ⟨-, ⟨p', q1, q2⟩, -⟩ := hmo.2.1.2.2.2.2.2.2.2.2.2.1.2 k (by omega)
    have ep : p' = p := by omega
    subst ep
    have hvr := cv_vr hW1 hF hni q2 (.inl rfl)
    rw [ln_bS hW hB hq hmo hst (fun i hi hm9 => (hwq.2.2.1 i hi hm9).1) c1 h3' hlk.1 hln o7 hN hr (hV.2.2.2.2.2.2 k hk).1]
    unfold rbO fit
    rw [p1, Int.toNat_natCast, p5, ← p2, ← hcv p' p3, Z_low4 hvr.1 hvr.2]
  · obtain ⟨-, ⟨p', q1, q2⟩, -⟩ := hmo.2.1.2.2.2.2.2.2.2.1.2 k (by omega)
    rw [q1, Int.toNat_natCast]
    exact cv_vr hW1 hF hni q2 (.inl rfl)
  · obtain ⟨-, ⟨p', q1, q2⟩, -⟩ := hmo.2.1.2.2.2.2.2.2.2.2.2.1.2 k (by omega)
    rw [q1, Int.toNat_natCast]
    exact cv_vr hW1 hF hni q2 (.inl rfl)
end HS
