-- a run: the latest call goes on
section RN2
variable {own own' ad ad' : Nat → Nat} {h h' : xb_H} {W : wD} {σ D : Nat} {gx : Nat → fG}
theorem FO.cg {nV nV' j : Nat} {v v' : Nat → Int64} {fr fr' : Nat → Int32} {x : fG} {pre : List Int} (hF : FO W nV v fr j x pre) (hn : nV ≤ nV') (hv : ∀ i, i < gO x + (gC x).length → v' i = v i) (hf : ∀ i, i < 5 → i ≠ 2 → fr' (5 * j + i) = fr (5 * j + i)) : FO W nV' v' fr' j x pre := by
  obtain ⟨⟨a1, a2, a3, a4⟩, a5, t, P, lcn, p0, E, lo, ν0, g, G, b1, b2, b3, b4, b5, b6⟩ := hF
  have f0 : fr' (5 * j) = fr (5 * j) := hf 0 (by omega) (by omega)
  have f1 : fr' (5 * j + 1) = fr (5 * j + 1) := hf 1 (by omega) (by omega)
  have f3 : fr' (5 * j + 3) = fr (5 * j + 3) := hf 3 (by omega) (by omega)
  have f4 : fr' (5 * j + 4) = fr (5 * j + 4) := hf 4 (by omega) (by omega)
  refine ⟨⟨by rw [f0]; exact a1, by rw [f1]; exact a2, by rw [f3]; exact a3, by rw [f4]; exact a4⟩, a5, t, P, lcn, p0, E, lo, ν0, g, G, b1, b2, by omega, b4, fun i hi => ?_, b6.cg (fun i h1 h2 => hv i h2)⟩
  rw [hv _ (by omega)]
  exact b5 i hi
theorem FO.bo {nV j : Nat} {v : Nat → Int64} {fr : Nat → Int32} {x : fG} {pre : List Int} (hF : FO W nV v fr j x pre) : gB x ≤ gO x ∧ gO x + (pre ++ gC x).length ≤ nV := by
  obtain ⟨⟨a1, a2, a3, a4⟩, a5, t, P, lcn, p0, E, lo, ν0, g, G, b1, b2, b3, b4, b5, b6⟩ := hF
  have := (b1.2.2.2.1 _ _ _ b4).1.2.2.1
  exact ⟨by omega, by omega⟩
/-- calls that are open below lie below -/
theorem rI.lo (hr : rI ad h W D gx) : ∀ j, j + 1 < D → gO (gx j) + (gC (gx j)).length ≤ gB (gx (D - 1)) := by
  obtain ⟨⟨d1, -⟩, -, h3, h4, -⟩ := hr
  have key : ∀ m j, j + 1 < D → D - 1 - j ≤ m + 1 → gO (gx j) + (gC (gx j)).length ≤ gB (gx (D - 1)) := by
    intro m
    induction m with
    | zero =>
      intro j h1 h2
      have e := (h4 j h1).2
      rw [show D - 1 = j + 1 by omega]
      omega
    | succ m ih =>
      intro j h1 h2
      have e := (h4 j h1).2
      by_cases h9 : j + 1 + 1 < D
      · have := ih (j + 1) h9 (by omega)
        have := (h3 (j + 1) (by omega)).bo.1
        omega
      · rw [show D - 1 = j + 1 by omega]
        omega
  exact fun j hj => key D j hj (by omega)
theorem rI.go {x' : fG} (hr : rI ad h W D gx) (hx : gI x' = gI (gx (D - 1)) ∧ gK x' = gK (gx (D - 1)) ∧ gB x' = gB (gx (D - 1)) ∧ gO x' = gO (gx (D - 1))) (ei : ∀ j, j ≠ 10 → j ≠ 15 → xb_i h' (ad 15) j = xb_i h (ad 15) j) (er : xb_r h' (ad 15) = xb_r h (ad 15)) (e38 : xb_i h' (ad 38) = xb_i h (ad 38)) (n37 : xb_n h' (ad 37) = xb_n h (ad 37)) (ev : ∀ j, j < gB (gx (D - 1)) → xb_l h' (ad 37) j = xb_l h (ad 37) j) (et : (xb_i h' (ad 15) 10).toInt = (gO x' + (gC x').length : Nat)) (ea : (xb_i h' (ad 15) 15).toInt = gA x') (hF : FO W (xb_n h (ad 37)) (xb_l h' (ad 37)) (xb_i h (ad 38)) (D - 1) x' []) : rI ad h' W D (va_up gx (D - 1) x') := by
  have lo := hr.lo
  obtain ⟨⟨d1, d2, d3, d4, d5⟩, ⟨t1, t2, t3, t4, t5, t6, t7⟩, h3, h4, h5⟩ := hr
  obtain ⟨x1, x2, x3, x4⟩ := hx
  have u1 : va_up gx (D - 1) x' (D - 1) = x' := by rw [xh_up, if_pos rfl]
  have u2 : ∀ j, j + 1 < D → va_up gx (D - 1) x' j = gx j := fun j hj => by rw [xh_up, if_neg (by omega)]
  refine ⟨⟨d1, d2, by rw [ei 3 (by omega) (by omega)]; exact d3, by rw [ei 4 (by omega) (by omega)]; exact d4, by rw [ei 8 (by omega) (by omega)]; exact d5⟩, ⟨by rw [u1]; exact et, by rw [u1]; exact ea, by rw [u1, x3, ei 16 (by omega) (by omega)]; exact t3, by rw [u1, x4, ei 17 (by omega) (by omega)]; exact t4, by rw [u1, x1, er]; exact t5, by rw [u1, x1, er]; exact t6, by rw [u1, x1, er]; exact t7⟩, fun j hj => ?_, fun j hj => ?_, ?_⟩
  · rw [n37, e38]
    by_cases hj2 : j + 1 = D
    · rw [if_pos hj2, show j = D - 1 by omega, u1]
      exact hF
    · rw [if_neg hj2, u2 j (by omega)]
      have hF2 := h3 j hj
      rw [if_neg hj2] at hF2
      have eT : rT W (va_up gx (D - 1) x' (j + 1)) = rT W (gx (j + 1)) := by
        by_cases hj3 : j + 1 + 1 = D
        · rw [show j + 1 = D - 1 by omega, u1]
          unfold rT
          rw [x1, x2]
        · rw [u2 (j + 1) (by omega)]
      rw [eT]
      exact hF2.cg (Nat.le_refl _) (fun i hi => ev i (by have := lo j (by omega); omega)) (fun i _ _ => rfl)
  · rw [e38, u2 j hj]
    obtain ⟨f1, f2⟩ := h4 j hj
    refine ⟨f1, ?_⟩
    by_cases hj3 : j + 1 + 1 = D
    · rw [show j + 1 = D - 1 by omega, u1, x3, ← f2, show j + 1 = D - 1 by omega]
    · rw [u2 (j + 1) (by omega)]
      exact f2
  · by_cases h9 : D = 1
    · subst h9
      rw [show (0 : Nat) = 1 - 1 from rfl, u1, x3]
      exact h5
    · rw [u2 0 (by omega)]
      exact h5
end RN2
