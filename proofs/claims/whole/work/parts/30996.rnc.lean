-- a run: within an instruction
section RNC
variable {own own' ad ad' : Nat → Nat} {h h' : xb_H} {W : wD} {σ D : Nat} {gx : Nat → fG} {t P lcn p0 E g : Nat} {lo ν0 : Nat → Int32} {G : ctG}
theorem rX.low (hr : rX ad h W D gx t P lcn p0 E lo ν0 g G) : ∀ j, j + 1 < D → gO (gx j) + (gC (gx j)).length ≤ gB (gx (D - 1)) := by
  obtain ⟨-, -, h3, hF, h4, -⟩ := hr
  refine chain_lo (fun j hj => ?_) (fun j hj => (h4 j hj).2)
  by_cases h9 : j + 1 < D
  · exact (h3 j h9).bo.1
  · rw [show j = D - 1 by omega]
    have := hF.2.2.2.1
    omega
theorem rX.go {a' : Nat} {c' : List Int} {s' : List gF} (hr : rX ad h W D gx t P lcn p0 E lo ν0 g G) (ei : ∀ j, j ≠ 10 → j ≠ 15 → xb_i h' (ad 15) j = xb_i h (ad 15) j) (er : xb_r h' (ad 15) = xb_r h (ad 15)) (e38 : xb_i h' (ad 38) = xb_i h (ad 38)) (n37 : xb_n h' (ad 37) = xb_n h (ad 37)) (ev : ∀ j, j < gB (gx (D - 1)) → xb_l h' (ad 37) j = xb_l h (ad 37) j) (et : (xb_i h' (ad 15) 10).toInt = (gO (gx (D - 1)) + c'.length : Nat)) (ea : (xb_i h' (ad 15) 15).toInt = a') (hl : c'.length ≤ g) (hloc : ∀ i, i < P + lcn → vr (ck_lt (dcb (wd W (gI (gx (D - 1))))) lo (dvs (wd W (gI (gx (D - 1)))) 0 (5 * t + 1)).toInt.toNat P i) (xb_l h' (ad 37) (gB (gx (D - 1)) + i))) (hv : vst (xb_l h' (ad 37)) (gO (gx (D - 1))) c') : rX ad h' W D (va_up gx (D - 1) (gT_ (gx (D - 1)) a' c' s')) t P lcn p0 E lo ν0 g G := by
  have low := hr.low
  obtain ⟨⟨d1, d2, d3, d4, d5⟩, ⟨t1, t2, t3, t4, t5, t6, t7⟩, h3, ⟨a, a5, b1, b2, b3, b7, b5, b6⟩, h4, h5⟩ := hr
  obtain ⟨x', hx'⟩ : ∃ x', x' = gT_ (gx (D - 1)) a' c' s' := ⟨_, rfl⟩
  rw [← hx']
  have x1 : gI x' = gI (gx (D - 1)) := by rw [hx']; rfl
  have x2 : gK x' = gK (gx (D - 1)) := by rw [hx']; rfl
  have x3 : gB x' = gB (gx (D - 1)) := by rw [hx']; rfl
  have x4 : gO x' = gO (gx (D - 1)) := by rw [hx']; rfl
  have x5 : gA x' = a' := by rw [hx']; rfl
  have x6 : gC x' = c' := by rw [hx']; rfl
  have u1 : va_up gx (D - 1) x' (D - 1) = x' := by rw [xh_up, if_pos rfl]
  have u2 : ∀ j, j + 1 < D → va_up gx (D - 1) x' j = gx j := fun j hj => by rw [xh_up, if_neg (by omega)]
  refine ⟨⟨d1, d2, by rw [ei 3 (by omega) (by omega)]; exact d3, by rw [ei 4 (by omega) (by omega)]; exact d4, by rw [ei 8 (by omega) (by omega)]; exact d5⟩, ⟨by rw [u1, x4, x6]; exact et, by rw [u1, x5]; exact ea, by rw [u1, x3, ei 16 (by omega) (by omega)]; exact t3, by rw [u1, x4, ei 17 (by omega) (by omega)]; exact t4, by rw [u1, x1, er]; exact t5, by rw [u1, x1, er]; exact t6, by rw [u1, x1, er]; exact t7⟩, fun j hj => ?_, ?_, fun j hj => ?_, ?_⟩
  · rw [n37, e38, u2 j hj]
    have eT : rT W (va_up gx (D - 1) x' (j + 1)) = rT W (gx (j + 1)) := by
      by_cases hj3 : j + 1 + 1 = D
      · rw [show j + 1 = D - 1 by omega, u1]
        unfold rT
        rw [x1, x2]
      · rw [u2 (j + 1) (by omega)]
    rw [eT]
    exact (h3 j hj).cg (Nat.le_refl _) (fun i hi => ev i (by have := low j hj; omega)) (fun i _ _ => rfl)
  · rw [u1, n37, e38]
    refine ⟨by rw [x1, x2, x3, x4]; exact a, by rw [x1]; exact a5, by rw [x1, x2]; exact b1, by rw [x3, x4]; exact b2, by rw [x4]; exact b3, by rw [x6]; exact hl, by rw [x1, x3]; exact hloc, by rw [x4, x6]; exact hv⟩
  · rw [e38, u2 j hj]
    obtain ⟨f1, f2⟩ := h4 j hj
    refine ⟨f1, ?_⟩
    by_cases hj3 : j + 1 + 1 = D
    · rw [show j + 1 = D - 1 by omega, u1, x3, ← f2, show j + 1 = D - 1 by omega]
    · rw [u2 (j + 1) (by omega)]
      exact f2
  · by_cases h9 : D = 1
    · subst h9
      rw [show (0 : Nat) = 1 - 1 from rfl, u1, x3]
      exact h5
    · rw [u2 0 (by omega)]
      exact h5
/-- a step that ends at a place whose types are known -/
theorem rX.to {a' : Nat} {c' : List Int} {gs : List gF} (hr : rX ad h W D gx t P lcn p0 E lo ν0 g G) (hG : G 0 a' c' gs) (ei : ∀ j, j ≠ 10 → j ≠ 15 → xb_i h' (ad 15) j = xb_i h (ad 15) j) (er : xb_r h' (ad 15) = xb_r h (ad 15)) (e38 : xb_i h' (ad 38) = xb_i h (ad 38)) (n37 : xb_n h' (ad 37) = xb_n h (ad 37)) (ev : ∀ j, j < gO (gx (D - 1)) → xb_l h' (ad 37) j = xb_l h (ad 37) j) (et : (xb_i h' (ad 15) 10).toInt = (gO (gx (D - 1)) + c'.length : Nat)) (ea : (xb_i h' (ad 15) 15).toInt = a') (hv : vst (xb_l h' (ad 37)) (gO (gx (D - 1))) c') : rI ad h' W D (va_up gx (D - 1) (gT_ (gx (D - 1)) a' c' gs)) := by
  obtain ⟨-, -, -, ⟨a, a5, b1, b2, b3, b7, b5, b6⟩, -, -⟩ := id hr
  have hl := (b1.2.2.2.1 _ _ _ hG).1.2.2.1
  have h9 := hr.go (s' := gs) ei er e38 n37 (fun j hj => ev j (by omega)) et ea hl (fun i hi => by rw [ev _ (by omega)]; exact b5 i hi) hv
  refine h9.cl ?_
  rw [xh_up, if_pos rfl]
  exact hG
/-- the outcome of such a step -/
theorem rX.oT {a' : Nat} {c' : List Int} {gs : List gF} {v' : Nat → Int64} (hr : rX ad h W D gx t P lcn p0 E lo ν0 g G) (hG : G 0 a' c' gs) (ei : ∀ j, j ≠ 10 → j ≠ 15 → xb_i h' (ad 15) j = xb_i h (ad 15) j) (er : xb_r h' (ad 15) = xb_r h (ad 15)) (e38 : xb_i h' (ad 38) = xb_i h (ad 38)) (n37 : xb_n h' (ad 37) = xb_n h (ad 37)) (ev : ∀ j, j < gO (gx (D - 1)) → xb_l h' (ad 37) j = xb_l h (ad 37) j) (et : (xb_i h' (ad 15) 10).toInt = (gO (gx (D - 1)) + c'.length : Nat)) (ea : (xb_i h' (ad 15) 15).toInt = a') (hv : vst (xb_l h' (ad 37)) (gO (gx (D - 1))) c') (hvv : ∀ j, j < gO (gx (D - 1)) + c'.length → xb_l h' (ad 37) j = v' j) (el : xb_l h' (ad 15) = xb_l h (ad 15)) (e36 : xb_i h' (ad 36) = xb_i h (ad 36)) : oR ad h ad h' W (.inl (D, va_up gx (D - 1) (gT_ (gx (D - 1)) a' c' gs), v')) := by
  refine ⟨hr.to hG ei er e38 n37 ev et ea hv, fun j hj => hvv j ?_, el, ei 7 (by omega) (by omega), e36⟩
  rw [xh_up, if_pos rfl] at hj
  exact hj
end RNC
