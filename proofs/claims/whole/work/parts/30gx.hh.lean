-- equality: load
section HI
variable {oc oc' or_ or' A A' : Nat → Nat} {H H1 H2 h h2 : xb_H} {F F2 : Nat → Nat → Int32} {v v2 u : Nat → Int32} {DM DM' : Nat → zM} {len rl len' rl' : Nat} {ad ad' : Nat → Nat} {W W' : wD} {σ x1 mm x3 K ts ts' mc mc' bc bs bc1 bs1 rc rs : Nat} {M M' : Nat → mD} {Qr : Int32 → xb_H → Nat → Nat → Prop} {r z c : Int32} {y : Int64}
theorem ldW.at_ {A2 : Nat → Nat} {r2 : Int32} (hs : sR A mm H H2) (hw : ldW mm v (xb_i H2) A H2 r2 A2 F2 u h2) : agr (fun k => xb_i H (A k)) (fun k => F2 (A2 k)) (vN v 5) (vN v 4) (vN v 13) ∧ (∀ k, k ∈ ldk → F2 (A2 k) = xb_i H (A k)) ∧ (∀ k, k ∈ [50, 55, 61, 65, 67, 74, 87] → xb_l h2 (A2 k) = xb_l H (A k)) ∧ xb_l h2 mm 85 = xb_l H mm 85 := by
  obtain ⟨w1, w2, w3, w4, -⟩ := hw
  refine ⟨?_, fun k hk => (w2 k hk).trans (hs.1 k ((by decide : ∀ k, k ∈ ldk → ∃ e ∈ aL, e.1 = k) k hk)).1, fun k hk => (w3 k hk).trans (hs.1 k ((by decide : ∀ k, k ∈ [50, 55, 61, 65, 67, 74, 87] → ∃ e ∈ aL, e.1 = k) k hk)).2, (w4 85 (by decide)).trans (congrFun hs.2 85)⟩
  obtain ⟨g3, g6, g8, g10, g11⟩ := w1
  have e : ∀ k, (∃ e ∈ aL, e.1 = k) → xb_i H2 (A k) = xb_i H (A k) := fun k hk => (hs.1 k hk).1
  refine ⟨fun j hj => (g3 j hj).trans (congrFun (e 3 (by decide)) j), fun m hm => ⟨(g6 m hm).1.trans (congrFun (e 6 (by decide)) m), (g6 m hm).2.trans (congrFun (e 7 (by decide)) m)⟩, fun j hj => ⟨(g8 j hj).1.trans (congrFun (e 8 (by decide)) j), (g8 j hj).2.trans (congrFun (e 9 (by decide)) j)⟩, fun j hj => (g10 j hj).trans (congrFun (e 10 (by decide)) j), fun j hj => ⟨(g11 j hj).1.trans (congrFun (e 11 (by decide)) j), (g11 j hj).2.trans (congrFun (e 12 (by decide)) j)⟩⟩
theorem gw_load (hP : jG σ x1 mm x3 (K + 1) H bc bs) (hX : jVx σ x1 mm x3 K (fun H1 b1 s1 Q2 => w_M_load mm H1 b1 s1 Q2) Qr) : w_Law_load x1 x3 H bc bs Qr := by
  obtain ⟨oc, or_, A, v, DM, len, rl, ad, W, ts, mc, M, rc, rs, hO⟩ := hP.op
  obtain ⟨⟨e0, hI, hg, hM⟩, hQ, hA, eH, nx⟩ := id hO
  subst e0
  have hB := hI.1.1
  obtain ⟨t2, t1⟩ := hQ.1
  have t3 : vN v 2 = ts := by unfold vN; rw [t2]; rfl
  have e5 : vN v 5 = mc := hQ.2.1.1
  have n43 := (hA.n (k := 43) (b := 8192) (by decide)).2
  obtain ⟨-, w2, w3, w4, -⟩ := hA.I
  obtain ⟨cA, hcA⟩ : ∃ cA : Nat → Int32, cA = fun j => if vN v 4 ≤ j ∧ j < vN v 4 + ts then xb_i H (ad 1) (j - vN v 4) else 0 := ⟨_, rfl⟩
  have cA1 : ∀ j, j < ts → xb_i H (ad 1) j = cA (vN v 4 + j) := fun j hj => by
    rw [hcA]
    show _ = if vN v 4 ≤ vN v 4 + j ∧ vN v 4 + j < vN v 4 + ts then xb_i H (ad 1) (vN v 4 + j - vN v 4) else 0
    rw [if_pos ⟨by omega, by omega⟩, Nat.add_sub_cancel_left]
  have cAr : ∀ j, -128 ≤ (cA j).toInt ∧ (cA j).toInt ≤ 127 := fun j => by
    rw [hcA]
    dsimp only
    split
    · exact hI.2.1.2.2.2.2 _
    · decide
  -- the reference's bytes are the same
  have same : ∀ (H2 : xb_H), sR A mm H H2 → ∀ cb : Nat → Int32, (∀ j, j < vN v 2 → cb (vN v 4 + j) = vp_nar .byte (xb_i H2 (A 1) j)) → (∀ j, ¬ (vN v 4 ≤ j ∧ j < vN v 4 + vN v 2) → cb j = 0) → cb = cA := by
    intro H2 hs cb h1 h0
    funext j
    rw [hcA]
    dsimp only
    split
    · rename_i h9
      have h8 := h1 (j - vN v 4) (by omega)
      have e : vN v 4 + (j - vN v 4) = j := by omega
      rw [e, (hs.1 1 (by decide)).1] at h8
      rw [h8]
      apply Int32.toInt.inj
      have h7 : (xb_i H (A 1) (j - vN v 4)).toInt = (xb_i H (ad 1) (j - vN v 4)).toInt := t1 _ (by omega)
      have h6 := hI.2.1.2.2.2.2 (j - vN v 4)
      rw [nar_id (by omega), h7]
    · rename_i h9
      exact h0 j (by rw [t3]; exact h9)
  unfold w_Law_load
  refine ⟨hB.k 0 (by omega), ho_load (cA := cA) (b0 := vN v 4) hI hg hM cA1 cAr (fun H1 oc' ad' md d z bc1 bs1 S' hmc hl hmo hr2 hz hok hldR hdX hmoB hfwd hft hM' hI' hg' _ => ?_) (fun H1 oc' ad' bc1 bs1 Fl hmc hl hr2 her h9 h10 hM' hI' hg' _ => ?_) (fun h9 _ _ => ⟨rfl, ?_⟩)⟩
  · have a0 : ad' 0 = ad 0 := hl.2.1 0 (by decide)
    have a2 : ad' 2 = ad 2 := hl.2.1 2 (by decide)
    refine jO.chX (w := fun H1 b1 s1 Q2 => w_M_load mm H1 b1 s1 Q2) hO hX (hl.hR hB) a0 hI' hM' hg' (fun H2 or' rc' rs' Q2 hA1 hs hg1 hQ2 => x_rload hA1 hg1 (fun r2 own2 A2 h2 F2 u DM2 len2 rl2 bc2 bs2 hT hA2 hg2 hY hW2 => ?_))
    obtain ⟨k1, k2, k3, k4⟩ := hW2.at_ hs
    obtain ⟨-, -, -, -, kv, kx⟩ := hW2
    rcases hY with ⟨h9, -⟩ | ⟨-, u0', cb, cbr, cbx, cb0, hY⟩
    · omega
    have ecb := same H2 hs cb cbx cb0
    subst ecb
    rw [t3] at hY
    rcases hY with ⟨S, y1, y2, y3, y4, y5, fi, y6, y7⟩ | ⟨Fl, y1, -⟩
    · rw [hok] at y1
      have eS := Except.ok.inj y1
      subst eS
      have ez : r2 = z := Int32.toInt.inj (by rw [y2, hz, e5])
      obtain ⟨u2', u5'⟩ : u 2 = 0 ∧ (u 5).toInt = (vN v 5 + 1 : Nat) := by
        rcases kx with ⟨h9, -⟩ | ⟨h9, ⟨h8, -⟩ | ⟨-, h8⟩⟩
        · omega
        · rw [h8] at y2
          have : (-1 : Int32).toInt = -1 := rfl
          omega
        · exact ⟨h9, h8⟩
      have v5 : vN u 5 = mc + 1 := by
        unfold vN
        rw [u5', Int.toNat_natCast, e5]
      have hDM : ∀ m, m < vN v 5 → DM2 m = DM m := fun m hm => by
        rw [y3, xh_up, if_neg (by omega)]
      obtain ⟨g1, g2, g3, g4, g5, g6, g7⟩ := hQ.ld (M' := va_up M mc d) (mc' := mc + 1) (y' := xb_l h2 mm 85) hI hM hl (fun m hm => by rw [hr2, xh_up, if_neg (by omega)]) (fun m hm => by rw [xh_up, if_neg (by omega)]) (by omega) w2 w3 w4 n43 k1 k2 k3 kv (by omega) hDM k4
      rw [ez]
      refine hQ2 own2 A2 h2 F2 u DM2 len2 rl2 bc2 bs2 hT hA2 hg2 ⟨⟨by rw [u2']; rfl, fun j hj => absurd hj (by omega)⟩, ⟨v5, fun m hm => ?_⟩, g1, g2, g3, ?_, g4, g5, g6⟩ u0'
      · by_cases h9 : m = mc
        · subst h9
          have em : DM2 m = zk (vN v 4) ts cb S' := by rw [y3, e5, xh_up, if_pos rfl]
          refine ⟨md, vN v 4, ts, cb, S', ?_, em, ?_⟩
          · rw [a2, hr2, xh_up, if_pos rfl]
          · rw [xh_up, if_pos rfl, em]
            refine ⟨hldR, hdX, hmoB, hfwd, fun j hj => ?_⟩
            have y6' : (F2 (A2 8) (12 * m + 10)).toInt = fi := by rw [e5] at y6; exact y6
            show bdF (zk (vN v 4) ts cb S') j = .ok (F2 (A2 12) ((F2 (A2 8) (12 * m + 10)).toInt.toNat + j)).toInt
            rw [y6', Int.toNat_natCast]
            exact y7 j hj
        · exact g7 m (by omega)
      · unfold gFt
        rw [a0, hft.1, hft.2]
        exact ⟨y4, y5⟩
    · rw [hok] at y1
      cases y1
  · have a0 : ad' 0 = ad 0 := hl.2.1 0 (by decide)
    refine jO.chX (w := fun H1 b1 s1 Q2 => w_M_load mm H1 b1 s1 Q2) hO hX (hl.hR hB) a0 hI' hM' hg' (fun H2 or' rc' rs' Q2 hA1 hs hg1 hQ2 => x_rload hA1 hg1 (fun r2 own2 A2 h2 F2 u DM2 len2 rl2 bc2 bs2 hT hA2 hg2 hY hW2 => ?_))
    obtain ⟨k1, k2, k3, k4⟩ := hW2.at_ hs
    obtain ⟨-, -, -, -, kv, kx⟩ := hW2
    rcases hY with ⟨h64, -⟩ | ⟨hlt, u0', cb, cbr, cbx, cb0, hY⟩
    · omega
    have ecb := same H2 hs cb cbx cb0
    subst ecb
    rw [t3] at hY
    rcases hY with ⟨S, y1, -⟩ | ⟨Fl', y1, y2, y3, y4, y5⟩
    · rw [her] at y1
      cases y1
    · rw [her] at y1
      have eF := Except.error.inj y1
      subst eF
      obtain ⟨u2', u5'⟩ : u 2 = 0 ∧ u 5 = v 5 := by
        rcases kx with ⟨h9, -⟩ | ⟨h9, ⟨-, h8⟩ | ⟨h8, -⟩⟩
        · omega
        · exact ⟨h9, h8⟩
        · rw [y2] at h8
          have : (-1 : Int32).toInt = -1 := rfl
          omega
      have v5 : vN u 5 = mc := by
        unfold vN
        rw [u5']
        exact e5
      obtain ⟨g1, g2, g3, g4, g5, g6, g7⟩ := hQ.ld (M' := M) (mc' := mc) (DM' := DM2) (y' := xb_l h2 mm 85) hI hM hl (fun m hm => by rw [hr2]) (fun m hm => rfl) (Nat.le_refl _) w2 w3 w4 n43 k1 k2 k3 kv (by omega) (fun m hm => by rw [y3]) k4
      rw [y2]
      refine hQ2 own2 A2 h2 F2 u DM2 len2 rl2 bc2 bs2 hT hA2 hg2 ⟨⟨by rw [u2']; rfl, fun j hj => absurd hj (by omega)⟩, ⟨v5, g7⟩, g1, g2, g3, ?_, g4, g5, g6⟩ u0'
      unfold gFt
      rw [a0]
      refine ⟨Int32.toInt.inj (by rw [h9]; exact y4), Int32.toInt.inj ?_⟩
      have y5' : (F2 (A2 89) 1).toInt + vN v 4 = Fl.2 := y5
      show (F2 (A2 89) 1).toInt = _
      omega
  · refine jO.twX (w := fun H1 b1 s1 Q2 => w_M_load mm H1 b1 s1 Q2) hO hX (by decide) (fun or' rc' rs' Q2 hA1 hg1 hQ2 => x_rload hA1 hg1 (fun r2 own2 A2 h2 F2 u DM2 len2 rl2 bc2 bs2 hT hA2 hg2 hY hW2 => ?_))
    obtain ⟨-, -, -, -, kv, kx⟩ := hW2
    rcases hY with ⟨h64, y1, y2, y3⟩ | ⟨hlt, -⟩
    · rcases kx with ⟨-, k1, k2, k3, k4⟩ | ⟨-, ⟨h8, -⟩ | ⟨h8, -⟩⟩
      · subst k1
        subst k2
        subst k3
        subst y3
        exact hQ2 r2 own2 A2 h2 _ u DM2 len2 rl2 bc2 bs2 hT hA2 hg2 (hQ.cgR (fun _ _ => rfl) (fun _ _ => rfl) (fun j hj => k4 j ((by decide : ∀ j, j ∈ gVL → j ≠ 0) j hj))) y2
      · exfalso
        rw [y1] at h8
        cases h8
      · exfalso
        rw [y1, h64] at h8
        cases h8
    · exfalso
      omega
end HI
