-- equality: more calls that change nothing
section GT0
variable {d : mD} {D : zM}
theorem mdQ.n2 (hq : mdQ d D) : dn d 1 = 7 * qt D 2 ∧ dn d 6 = 5 * qt D 7 ∧ dn d 7 = 5 * qt D 9 ∧ dn d 11 = 5 * qt D 11 := by
  obtain ⟨b, N, cA, S, ω, h1, h2, h3⟩ := hq
  obtain ⟨vs0, νr, hE, k9, k9', -, -, hcx, hdN, hS10⟩ := h2
  subst h1
  exact ⟨hE.2.1.1, hE.2.2.2.2.2.1.1, hE.2.2.2.2.2.2.1.1, hE.2.2.2.2.2.2.2.2.1.1⟩
theorem mdQ.xp (hq : mdQ d D) {k : Nat} (hk : k < qt D 7) : (dvs d 6 (5 * k + 1)).toInt = (ub (qc D) (xko D k)).toInt ∧ (dvs d 6 (5 * k + 2)).toInt = xnu D k ∧ (dvs d 6 (5 * k + 3)).toInt + qb D = cE (qc D) (qp D 7 k) ∧ (dvs d 6 (5 * k + 4)).toInt = cV (qc D) (qp D 7 k) := by
  obtain ⟨b, N, cA, S, ω, h1, h2, h3⟩ := hq
  obtain ⟨vs0, νr, hE, k9, k9', -, -, hcx, hdN, hS10⟩ := h2
  subst h1
  obtain ⟨-, w1, w2, w3, w4⟩ := hE.2.2.2.2.2.1.2 k hk
  rw [k9 6 (by decide)]
  exact ⟨w1, w2, w3, w4⟩
theorem gMd.q {ad : Nat → Nat} {H : xb_H} {mc m : Nat} {M : Nat → mD} {φ : Nat → Nat → Int32} {ν : Nat → Int32} {DM : Nat → zM} (h : gMd ad H mc M φ ν DM) (hm : m < mc) : mdQ (M m) (DM m) ∧ ∀ j, j < qt (DM m) 3 → bdF (DM m) j = .ok (φ 12 ((φ 8 (12 * m + 10)).toInt.toNat + j)).toInt := by
  obtain ⟨md, b, N, cA, S, g1, g2, g3, g4, g5, g6, g7⟩ := h.2 m hm
  exact ⟨⟨b, N, cA, S, _, g2, g3, g4⟩, g7⟩
end GT0
section GT
variable {oc oc' or_ or' A A' : Nat → Nat} {H H1 h h2 : xb_H} {F F2 : Nat → Nat → Int32} {v v2 u : Nat → Int32} {DM DM' : Nat → zM} {len rl len' rl' : Nat} {ad ad' : Nat → Nat} {W W' : wD} {σ x1 mm x3 K ts ts' mc mc' bc bs bc1 bs1 rc rs : Nat} {M M' : Nat → mD} {Qr : Int32 → xb_H → Nat → Nat → Prop} {r : Int32} {y : Int64}
/-- the class answers z and changes nothing; the reference answers alike -/
theorem jO.an {z : Int32} {w : xb_H → (Int32 → xb_H → Prop) → Prop} (hO : jO σ x1 mm x3 K H bc bs oc or_ A v DM len rl ad W ts mc M rc rs) (hR : jV σ x1 mm x3 K (fun H1 b1 s1 Q2 => w H1 (fun r2 H2 => Q2 r2 H2 b1 s1)) Qr)
    (hw : ∀ (H1 : xb_H) (or' : Nat → Nat) (Q2 : Int32 → xb_H → Prop), rA or' mm A H1 (xb_i H1) v DM len rl (K + 1) → (∀ k, (∃ e ∈ aL, e.1 = k) → xb_i H1 (A k) = xb_i H (A k) ∧ xb_l H1 (A k) = xb_l H (A k)) → xb_i H1 = xb_i H → (∀ u : Nat → Int32, rA or' mm A H1 (xb_i H1) u DM len rl K → (∀ j, j ∈ gVL → u j = v j) → u 0 = 0 → Q2 z (mH H1 (xb_i H1) mm u)) → w (mH H1 (xb_i H1) mm v) Q2) : xb_k H x3 = 103 ∧ vp_in 0 (xb_n H x3) ∧ ∀ h6 : xb_H, h6 = xb_L H x3 (Int32.toNatClampNeg 0) (Int32.toInt64 z) → Qr 0 h6 bc bs := by
  obtain ⟨or', hJ, hQ1, k5, k3, n3, t1, t2⟩ := hO.wr (Int32.toInt64 z)
  refine ⟨k3, by rw [n3, z_in]; decide, fun h6 e6 => ?_⟩
  subst e6
  refine hR 0 _ _ _ hJ.k9 (fun Q2 hQ2 => ?_)
  show w (xb_L H x3 0 (Int32.toInt64 z)) _
  rw [hJ.2.1]
  refine hw _ or' _ hJ.1 (fun k hk => ⟨rfl, t1 k hk⟩) rfl (fun u hA' hu h0 => hQ2 _ _ _ _ ?_)
  exact jE.mk0 hJ hQ1 hA' hu h0 (fun _ => k5)
theorem jO.anl {z : Int64} {w : xb_H → (Int64 → xb_H → Prop) → Prop} (hO : jO σ x1 mm x3 K H bc bs oc or_ A v DM len rl ad W ts mc M rc rs) (hR : jVl σ x1 mm x3 K (fun H1 b1 s1 Q2 => w H1 (fun r2 H2 => Q2 r2 H2 b1 s1)) Qr)
    (hw : ∀ (H1 : xb_H) (or' : Nat → Nat) (Q2 : Int64 → xb_H → Prop), rA or' mm A H1 (xb_i H1) v DM len rl (K + 1) → (∀ k, (∃ e ∈ aL, e.1 = k) → xb_i H1 (A k) = xb_i H (A k) ∧ xb_l H1 (A k) = xb_l H (A k)) → xb_i H1 = xb_i H → (∀ u : Nat → Int32, rA or' mm A H1 (xb_i H1) u DM len rl K → (∀ j, j ∈ gVL → u j = v j) → u 0 = 0 → Q2 z (mH H1 (xb_i H1) mm u)) → w (mH H1 (xb_i H1) mm v) Q2) : xb_k H x3 = 103 ∧ vp_in 0 (xb_n H x3) ∧ ∀ h6 : xb_H, h6 = xb_L H x3 (Int32.toNatClampNeg 0) z → Qr 0 h6 bc bs := by
  obtain ⟨or', hJ, hQ1, k5, k3, n3, t1, t2⟩ := hO.wr z
  refine ⟨k3, by rw [n3, z_in]; decide, fun h6 e6 => ?_⟩
  subst e6
  refine hR 0 _ _ _ hJ.k9 (fun Q2 hQ2 => ?_)
  show w (xb_L H x3 0 z) _
  rw [hJ.2.1]
  refine hw _ or' _ hJ.1 (fun k hk => ⟨rfl, t1 k hk⟩) rfl (fun u hA' hu h0 => hQ2 _ _ _ _ ?_)
  exact jE.mk0 hJ hQ1 hA' hu h0 (fun _ => k5)
/-- the class throws; so does the reference -/
theorem jO.tw {c : Int32} {w : xb_H → (Int32 → xb_H → Prop) → Prop} (hO : jO σ x1 mm x3 K H bc bs oc or_ A v DM len rl ad W ts mc M rc rs) (hR : jV σ x1 mm x3 K (fun H1 b1 s1 Q2 => w H1 (fun r2 H2 => Q2 r2 H2 b1 s1)) Qr) (hc : c ≠ 0)
    (hw : ∀ (or' : Nat → Nat) (Q2 : Int32 → xb_H → Prop), rA or' mm A H (xb_i H) v DM len rl (K + 1) → (∀ (z : Int32) (u : Nat → Int32), rA or' mm A H (xb_i H) u DM len rl K → (∀ j, j ∈ gVL → u j = v j) → u 0 = c → Q2 z (mH H (xb_i H) mm u)) → w (mH H (xb_i H) mm v) Q2) : Qr c H (bc - 1) (bs - 6) := by
  obtain ⟨or', hJ⟩ := hO.th (c := 1) (s := 6) (by omega) (by omega)
  refine hR c _ _ _ hJ.k9 (fun Q2 hQ2 => ?_)
  show w H _
  have eH := hJ.2.1
  refine cast (congrArg (fun X => w X _) eH.symm) ?_
  refine hw or' _ hJ.1 (fun z u hA' hu h0 => hQ2 _ _ _ _ ?_)
  exact jE.mk0 hJ hO.2.1 hA' hu h0 (fun h9 => absurd h9 hc)
theorem jO.twl {c : Int32} {w : xb_H → (Int64 → xb_H → Prop) → Prop} (hO : jO σ x1 mm x3 K H bc bs oc or_ A v DM len rl ad W ts mc M rc rs) (hR : jVl σ x1 mm x3 K (fun H1 b1 s1 Q2 => w H1 (fun r2 H2 => Q2 r2 H2 b1 s1)) Qr) (hc : c ≠ 0)
    (hw : ∀ (or' : Nat → Nat) (Q2 : Int64 → xb_H → Prop), rA or' mm A H (xb_i H) v DM len rl (K + 1) → (∀ (z : Int64) (u : Nat → Int32), rA or' mm A H (xb_i H) u DM len rl K → (∀ j, j ∈ gVL → u j = v j) → u 0 = c → Q2 z (mH H (xb_i H) mm u)) → w (mH H (xb_i H) mm v) Q2) : Qr c H (bc - 1) (bs - 6) := by
  obtain ⟨or', hJ⟩ := hO.th (c := 1) (s := 6) (by omega) (by omega)
  refine hR c _ _ _ hJ.k9 (fun Q2 hQ2 => ?_)
  show w H _
  have eH := hJ.2.1
  refine cast (congrArg (fun X => w X _) eH.symm) ?_
  refine hw or' _ hJ.1 (fun z u hA' hu h0 => hQ2 _ _ _ _ ?_)
  exact jE.mk0 hJ hO.2.1 hA' hu h0 (fun h9 => absurd h9 hc)
theorem u0 {c : Int32} : va_up v 0 c 0 = c := by rw [xh_up, if_pos rfl]
theorem aLd (k : Nat) (h : ∃ e ∈ aL, e.1 = k) : ∃ e ∈ aL, e.1 = k := h
theorem gw_trap {a1 : Int32} (hP : jG σ x1 mm x3 (K + 1) H bc bs) (hR : jV σ x1 mm x3 K (fun H1 b1 s1 Q2 => w_M_trap mm a1 H1 (fun r2 H2 => Q2 r2 H2 b1 s1)) Qr) : w_Law_trap x1 a1 x3 H bc bs Qr := by
  obtain ⟨oc, or_, A, v, DM, len, rl, ad, W, ts, mc, M, rc, rs, hO⟩ := hP.op
  obtain ⟨⟨e0, hI, hg, hM⟩, hQ, hA, eH, nx⟩ := id hO
  subst e0
  unfold w_Law_trap
  refine ⟨hI.1.1.k 0 (by omega), ho_trap hI hg (fun j hj hj2 _ => ?_) (fun h9 _ _ => ⟨rfl, ?_⟩)⟩
  · refine jO.an (w := fun H1 Q2 => w_M_trap mm a1 H1 Q2) hO hR (fun H1 or' Q2 hA1 t1 hi9 hQ2 => r_trap hA1 (fun j' hj' _ hA' => ?_) (fun h9 => (byd_1 h9 hj hj2).elim))
    have ej : j' = j := by omega
    subst ej
    have e9 : xb_i H1 (A 86) j' = xb_i H (ad 36) j' := by
      rw [(t1 86 (by decide)).1]
      exact hQ.2.2.2.2.2.2.1.2 j' hj2
    rw [e9]
    exact hQ2 _ hA' vu_gVL u0
  · exact jO.tw (w := fun H1 Q2 => w_M_trap mm a1 H1 Q2) hO hR (by decide) (fun or' Q2 hA1 hQ2 => r_trap hA1 (fun j' hj' hj2 _ => (byd_1 h9 hj' hj2).elim) (fun _ hA' => hQ2 _ _ hA' vu_gVL u0))
theorem gw_out {a1 : Int32} (hP : jG σ x1 mm x3 (K + 1) H bc bs) (hR : jVl σ x1 mm x3 K (fun H1 b1 s1 Q2 => w_M_out mm a1 H1 (fun r2 H2 => Q2 r2 H2 b1 s1)) Qr) : w_Law_out x1 a1 x3 H bc bs Qr := by
  obtain ⟨oc, or_, A, v, DM, len, rl, ad, W, ts, mc, M, rc, rs, hO⟩ := hP.op
  obtain ⟨⟨e0, hI, hg, hM⟩, hQ, hA, eH, nx⟩ := id hO
  subst e0
  obtain ⟨-, -, -, -, w6, w7⟩ := hQ.2.2.1.2.2.2
  have h88 : (xb_i H (ad 27) 1).toInt = vN v 88 := by
    have := (hA.n (k := 88) (b := 4096) (by decide)).1
    rw [← this]
    exact congrArg Int32.toInt w6.symm
  unfold w_Law_out
  refine ⟨hI.1.1.k 0 (by omega), ho_out hI hg h88 (fun j hj hj2 _ => ?_) (fun h9 _ _ => ⟨rfl, ?_⟩)⟩
  · refine jO.anl (w := fun H1 Q2 => w_M_out mm a1 H1 Q2) hO hR (fun H1 or' Q2 hA1 t1 hi9 hQ2 => r_out hA1 (fun j' hj' _ hA' => ?_) (fun h9 => (byd_1 h9 hj hj2).elim))
    have ej : j' = j := by omega
    subst ej
    have e9 : xb_l H1 (A 87) j' = xb_l H (ad 28) j' := by
      rw [(t1 87 (by decide)).2]
      exact w7 j' (by rw [h88]; omega)
    rw [e9]
    exact hQ2 _ hA' vu_gVL u0
  · exact jO.twl (w := fun H1 Q2 => w_M_out mm a1 H1 Q2) hO hR (by decide) (fun or' Q2 hA1 hQ2 => r_out hA1 (fun j' hj' hj2 _ => (byd_1 h9 hj' hj2).elim) (fun _ hA' => hQ2 _ _ hA' vu_gVL u0))
theorem gw_module {a1 a2 : Int32} (hP : jG σ x1 mm x3 (K + 1) H bc bs) (hR : jV σ x1 mm x3 K (fun H1 b1 s1 Q2 => w_M_module mm a1 a2 H1 (fun r2 H2 => Q2 r2 H2 b1 s1)) Qr) : w_Law_module x1 a1 a2 x3 H bc bs Qr := by
  obtain ⟨oc, or_, A, v, DM, len, rl, ad, W, ts, mc, M, rc, rs, hO⟩ := hP.op
  obtain ⟨⟨e0, hI, hg, hM⟩, hQ, hA, eH, nx⟩ := id hO
  subst e0
  have hmc : vN v 5 = mc := hQ.2.1.1
  unfold w_Law_module
  refine ⟨hI.1.1.k 0 (by omega), ho_module hI hg hM (fun i k z hi hi2 hk hk2 hz _ => ?_) (fun h9 _ _ => ⟨rfl, ?_⟩)⟩
  · refine jO.an (w := fun H1 Q2 => w_M_module mm a1 a2 H1 Q2) hO hR (fun H1 or' Q2 hA1 t1 hi9 hQ2 => r_module hA1 (fun m k' z' hm hm2 hk' _ hz' hA' => ?_) (fun h9 => ?_))
    · have em : m = i := by omega
      have ek : k' = k := by omega
      subst em
      subst ek
      obtain ⟨q1, -⟩ := hQ.2.1.q hi2
      have n1 := q1.n
      have n2 := q1.n2
      have ez : z' = z := by
        apply Int32.toInt.inj
        rw [hz', hz]
        congr 1
        unfold mdV mrk
        rcases (show k' = 0 ∨ k' = 1 ∨ k' = 2 ∨ k' = 3 ∨ k' = 4 ∨ k' = 5 ∨ k' = 6 ∨ k' = 7 ∨ k' = 8 by omega) with e | e | e | e | e | e | e | e | e
        · subst e; show qt (DM m) 1 = dn (M m) 0 / 5; omega
        · subst e; show qt (DM m) 2 = dn (M m) 1 / 7; omega
        · subst e; show iM (DM m) 0 + qt (DM m) 3 = dn (M m) 2 / 2; omega
        · subst e; show iM (DM m) 1 + qt (DM m) 4 = dn (M m) 3 / 3; omega
        · subst e; show iM (DM m) 2 + qt (DM m) 5 = dn (M m) 4 / 3; omega
        · subst e; show iM (DM m) 3 + qt (DM m) 6 = dn (M m) 5 / 4; omega
        · subst e; show qt (DM m) 7 = dn (M m) 6 / 5; omega
        · subst e; show qt (DM m) 9 = dn (M m) 7 / 5; omega
        · subst e; show qt (DM m) 11 = dn (M m) 11 / 5; omega
      rw [ez]
      exact hQ2 _ hA' vu_gVL u0
    · rcases h9 with h9 | h9
      · exact (byd_1 h9 hi (by omega)).elim
      · exact (byd_1 h9 hk hk2).elim
  · refine jO.tw (w := fun H1 Q2 => w_M_module mm a1 a2 H1 Q2) hO hR (by decide) (fun or' Q2 hA1 hQ2 => r_module hA1 (fun m k' z' hm hm2 hk' hk2 hz' hA' => ?_) (fun _ hA' => hQ2 _ _ hA' vu_gVL u0))
    rcases h9 with h9 | h9
    · exact (byd_1 h9 hm (by omega)).elim
    · exact (byd_1 h9 hk' hk2).elim
theorem gw_room {a1 a2 : Int32} (hP : jG σ x1 mm x3 (K + 1) H bc bs) (hR : jV σ x1 mm x3 K (fun H1 b1 s1 Q2 => w_M_room mm a1 a2 H1 (fun r2 H2 => Q2 r2 H2 b1 s1)) Qr) : w_Law_room x1 a1 a2 x3 H bc bs Qr := by
  obtain ⟨oc, or_, A, v, DM, len, rl, ad, W, ts, mc, M, rc, rs, hO⟩ := hP.op
  obtain ⟨⟨e0, hI, hg, hM⟩, hQ, hA, eH, nx⟩ := id hO
  subst e0
  have hmc : vN v 5 = mc := hQ.2.1.1
  have hn9 : ∀ m, m < mc → dn (M m) 9 / 5 = qt (DM m) 10 := by
    intro m hm
    obtain ⟨q1, -⟩ := hQ.2.1.q hm
    have n1 := q1.n.2.2.2.2.2.2
    have n9 : dn (M m) 9 = 5 * qt (DM m) 10 := by
      obtain ⟨b, N, cA, S, ω, h1, h2, h3⟩ := q1
      obtain ⟨vs0, νr, hE, -⟩ := h2
      rw [h1]
      exact hE.2.2.2.2.2.2.2.1.1
    omega
  unfold w_Law_room
  refine ⟨hI.1.1.k 0 (by omega), ho_room hI hg hM (fun i k z hi hi2 hk hk2 hz _ => ?_) (fun h9 _ _ => ⟨rfl, ?_⟩)⟩
  · have h10 := hn9 i hi2
    refine jO.an (w := fun H1 Q2 => w_M_room mm a1 a2 H1 Q2) hO hR (fun H1 or' Q2 hA1 t1 hi9 hQ2 => r_room hA1 (fun m b f hm hm2 hb hb2 hf hA' => ?_) (fun h9 => ?_))
    · have em : m = i := by omega
      have ek : b = k := by omega
      subst em
      subst ek
      obtain ⟨q1, q2⟩ := hQ.2.1.q hi2
      have n1 := q1.n.2.2.2.2.2.2
      have hb3 : b < qt (DM m) 3 := by omega
      obtain ⟨-, -, b3, -⟩ := q1.bo hb3
      rw [q2 b hb3] at b3
      have b4 : (xb_i H (A 12) ((xb_i H (A 8) (12 * m + 10)).toInt.toNat + b)).toInt = (dvs (M m) 9 (5 * b + 4)).toInt := by injection b3
      rw [(t1 8 (by decide)).1] at hf
      have ez : xb_i H1 (A 12) (f + b) = z := by
        rw [(t1 12 (by decide)).1]
        apply Int32.toInt.inj
        rw [hf, Int.toNat_natCast] at b4
        rw [b4, hz, z_of64, ← b4]
        have := (xb_i H (A 12) (f + b)).toInt_lt
        have := (xb_i H (A 12) (f + b)).le_toInt
        omega
      rw [ez]
      exact hQ2 _ hA' vu_gVL u0
    · rcases h9 with h9 | ⟨m, hm, hm2, h9⟩
      · exact (byd_1 h9 hi (by omega)).elim
      · have em : m = i := by omega
        subst em
        exact (byd_1 h9 hk (by omega)).elim
  · refine jO.tw (w := fun H1 Q2 => w_M_room mm a1 a2 H1 Q2) hO hR (by decide) (fun or' Q2 hA1 hQ2 => r_room hA1 (fun m b f hm hm2 hb hb2 hf hA' => ?_) (fun _ hA' => hQ2 _ _ hA' vu_gVL u0))
    rcases h9 with h9 | ⟨i, hi, hi2, h9⟩
    · exact (byd_1 h9 hm (by omega)).elim
    · have em : m = i := by omega
      subst em
      exact (byd_1 h9 hb (by rw [hn9 m hi2]; exact hb2)).elim
end GT
