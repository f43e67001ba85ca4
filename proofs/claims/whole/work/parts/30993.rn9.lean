-- a run: a function is called
theorem chain_lo {gx : Nat → fG} {D : Nat} (h1 : ∀ j, j < D → gB (gx j) ≤ gO (gx j)) (h2 : ∀ j, j + 1 < D → gB (gx (j + 1)) = gO (gx j) + (gC (gx j)).length) : ∀ j, j + 1 < D → gO (gx j) + (gC (gx j)).length ≤ gB (gx (D - 1)) := by
  have key : ∀ m j, j + 1 < D → D - 1 - j ≤ m + 1 → gO (gx j) + (gC (gx j)).length ≤ gB (gx (D - 1)) := by
    intro m
    induction m with
    | zero =>
      intro j h3 h4
      have e := h2 j h3
      rw [show D - 1 = j + 1 by omega]
      omega
    | succ m ih =>
      intro j h3 h4
      have e := h2 j h3
      by_cases h9 : j + 1 + 1 < D
      · have := ih (j + 1) h9 (by omega)
        have := h1 (j + 1) (by omega)
        omega
      · rw [show D - 1 = j + 1 by omega]
        omega
  exact fun j hj => key D j hj (by omega)
section RN9
variable {own own' own1 ad ad' ad1 : Nat → Nat} {h h' h1 : xb_H} {W : wD} {σ D : Nat} {gx : Nat → fG}
/-- a new open call -/
theorem cP.new {f T i k t P lcn p0 E g : Nat} {lo ν0 : Nat → Int32} {G : ctG} (hc : cP ad h W D gx f T) (hD : D < 200) (hi : i < wic W) (hft : fT W f = ftm (wd W i) k) (hb : fB (wd W i) k t P lcn p0 E lo ν0 g G)
    (i3 : xb_i h1 (ad1 15) 3 = xb_i h (ad 15) 3) (i8 : xb_i h1 (ad1 15) 8 = xb_i h (ad 15) 8) (i4 : (xb_i h1 (ad1 15) 4).toInt = (D + 1 : Nat)) (i10 : (xb_i h1 (ad1 15) 10).toInt = (T + P + lcn : Nat)) (hT : mT ad1 h1 W (i, k, T, T + P + lcn, p0, [], []))
    (nV : xb_n h (ad 37) ≤ xb_n h1 (ad1 37)) (nV2 : T + P + lcn + g ≤ xb_n h1 (ad1 37)) (hv : ∀ j, j < T + P → xb_l h1 (ad1 37) j = xb_l h (ad 37) j) (hz : ∀ j, T + P ≤ j → j < T + P + lcn → xb_l h1 (ad1 37) j = 0)
    (hf : ∀ j, j < D → ∀ y, y < 5 → y ≠ 2 → xb_i h1 (ad1 38) (5 * j + y) = xb_i h (ad 38) (5 * j + y)) (hbk : ∀ j, j + 1 < D → xb_i h1 (ad1 38) (5 * j + 2) = xb_i h (ad 38) (5 * j + 2)) (hbD : 0 < D → (xb_i h1 (ad1 38) (5 * (D - 1) + 2)).toInt = gA (gx (D - 1)))
    (hfD : (xb_i h1 (ad1 38) (5 * D)).toInt = i ∧ (xb_i h1 (ad1 38) (5 * D + 1)).toInt = k ∧ (xb_i h1 (ad1 38) (5 * D + 3)).toInt = T ∧ (xb_i h1 (ad1 38) (5 * D + 4)).toInt = (T + P + lcn : Nat)) : rI ad1 h1 W (D + 1) (va_up gx D (i, k, T, T + P + lcn, p0, [], [])) := by
  obtain ⟨⟨d1, d2, d3, d4⟩, ⟨t1, t2, t3⟩, ⟨d5, d6⟩, h3, h4⟩ := id hc
  obtain ⟨x, hx⟩ : ∃ x : fG, x = (i, k, T, T + P + lcn, p0, [], []) := ⟨_, rfl⟩
  rw [← hx] at hT ⊢
  have u1 : va_up gx D x D = x := by rw [xh_up, if_pos rfl]
  have u2 : ∀ j, j < D → va_up gx D x j = gx j := fun j hj => by rw [xh_up, if_neg (by omega)]
  have x1 : gI x = i := by rw [hx]; rfl
  have x2 : gK x = k := by rw [hx]; rfl
  have x3 : gB x = T := by rw [hx]; rfl
  have x4 : gO x = T + P + lcn := by rw [hx]; rfl
  have x5 : gA x = p0 := by rw [hx]; rfl
  have x6 : gC x = [] := by rw [hx]; rfl
  have x7 : gS x = [] := by rw [hx]; rfl
  have lo1 := chain_lo (fun j hj => (h3 j hj).bo.1) (fun j hj => (h4 j hj).2)
  have below : ∀ j, j < D → gO (gx j) + (gC (gx j)).length ≤ T := fun j hj => by
    have e := (d6 (by omega)).1
    by_cases h9 : j + 1 < D
    · have := lo1 j h9
      have := (h3 (D - 1) (by omega)).bo.1
      omega
    · rw [e, show D - 1 = j by omega]
      omega
  obtain ⟨⟨c1, c2, c3, c4, c5⟩, ⟨b1, b2, b3, b4, b5, b6, b7, b8⟩, b9, -⟩ := id hb
  have eft : fT W f = (ptl (dcb (wd W i)) (dvs (wd W i) 0 (5 * t + 1)).toInt.toNat P, (dvs (wd W i) 0 (5 * t + 4)).toInt) := by
    rw [hft]
    unfold ftm tyf
    rw [c3, Int.toNat_natCast, c5, Int.toNat_natCast]
  have erT : rT W x = (fT W f).2 := by
    unfold rT
    rw [x1, x2, hft]
  rw [eft] at t3
  have hvp := vst_ptl.mp t3
  refine ⟨⟨by omega, by omega, by rw [i3]; exact d2, i4, by rw [i8]; exact d4⟩, ⟨?_, ?_⟩, fun j hj => ?_, fun j hj => ?_, ?_⟩
  · rw [show D + 1 - 1 = D by omega, u1, x4, x6]
    exact i10
  · rw [show D + 1 - 1 = D by omega, u1]
    exact hT
  · by_cases hj2 : j = D
    · rw [hj2, if_pos rfl, u1]
      refine ⟨⟨by rw [x1]; exact hfD.1, by rw [x2]; exact hfD.2.1, by rw [x3]; exact hfD.2.2.1, by rw [x4]; exact hfD.2.2.2⟩, by rw [x1]; exact hi, t, P, lcn, p0, E, lo, ν0, g, G, by rw [x1, x2]; exact hb, by rw [x3, x4], by rw [x4]; exact nV2, by rw [x5, x6, x7]; exact b9, fun y hy => ?_, by rw [x6]; exact trivial⟩
      rw [x1, x3]
      unfold ck_lt
      split
      · rename_i h9
        rw [hv _ (by omega)]
        exact hvp y h9
      · rw [hz _ (by omega) (by omega)]
        exact fun _ => ⟨by decide, by decide⟩
    · rw [if_neg (by omega), u2 j (by omega)]
      have hF := h3 j (by omega)
      have ep : (if j + 1 = D then tp (fT W f).2 else tp (rT W (gx (j + 1)))) = tp (rT W (va_up gx D x (j + 1))) := by
        by_cases h9 : j + 1 = D
        · rw [if_pos h9, h9, u1, erT]
        · rw [if_neg h9, u2 (j + 1) (by omega)]
      rw [ep] at hF
      exact hF.cg nV (fun y hy => hv y (by have := below j (by omega); omega)) (fun y h8 h9 => hf j (by omega) y h8 h9)
  · by_cases hj2 : j + 1 = D
    · have e0 : 0 < D := by omega
      rw [hj2, u1, x3, u2 j (by omega), (d6 e0).1]
      have := hbD e0
      rw [show D - 1 = j by omega] at this ⊢
      exact ⟨this, rfl⟩
    · rw [u2 j (by omega), u2 (j + 1) (by omega), hbk j (by omega)]
      exact h4 j (by omega)
  · by_cases h9 : D = 0
    · subst h9
      rw [u1, x3]
      exact d5 rfl
    · rw [u2 0 (by omega)]
      exact (d6 (by omega)).2.1
end RN9
