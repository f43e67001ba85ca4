-- a module that was loaded: its bodies, as a run needs them
/-- what is known of a body that was read from cA at b -/
def dxF (cA : Nat → Int32) (b N : Nat) (cb ν : Nat → Int32) (k p0 E : Nat) (ν0 : Nat → Int32) (G : ctG) : Prop := E ≤ N ∧ cx_ cA cb b N ∧ (∃ V : Nat → Prop, vkC cb ν0 ν p0 E G V) ∧ ∃ (νr : Nat → Int32) (E' m : Nat), wkC cA νr b E' m (b + p0) 0 ∧ E' ≤ b + N ∧ ∀ j, p0 ≤ j → j < E → ν0 j = νr j
/-- an else's note is its end's place, which comes later -/
theorem wk_els {cb ν : Nat → Int32} {E : Nat} : ∀ (m p : Nat) (pre : List (Nat × Option Nat)) (o e : Nat) (t : List (Nat × Option Nat)), (wk_sh ((cb p).toInt % 256) < 13 ∨ True) → wk cb ν E m p (pre ++ (o, some e) :: t) → ∃ q : Nat, (ν e).toInt = q ∧ p ≤ q
  | 0, _, _, _, _, _, _, h => h.elim
  | m + 1, p, pre, o, e, t, _, h => by
    obtain ⟨h0, h1, h2, h3, h4, h5⟩ := h
    by_cases c0 : wk_sh ((cb p).toInt % 256) = 0
    · obtain ⟨q, g1, g2⟩ := wk_els m (p + 1) pre o e t (.inr trivial) (h1 c0)
      exact ⟨q, g1, by omega⟩
    · by_cases c1 : wk_sh ((cb p).toInt % 256) = 1
      · obtain ⟨q, g1, g2⟩ := wk_els m (p + 2) ((p, none) :: pre) o e t (.inr trivial) (h2 c1).2.2.2
        exact ⟨q, g1, by omega⟩
      · by_cases c2 : wk_sh ((cb p).toInt % 256) = 2
        · obtain ⟨o', st', k1, k2, k3, k4⟩ := h3 c2
          match pre, k1, k4 with
          | [], k1, _ => cases k1
          | x :: pre', k1, k4 =>
            rw [List.cons_append] at k1
            obtain ⟨-, k5⟩ := List.cons.inj k1
            rw [← k5] at k4
            obtain ⟨q, g1, g2⟩ := wk_els m (p + 1) ((o', some p) :: pre') o e t (.inr trivial) k4
            exact ⟨q, g1, by omega⟩
        · by_cases c3 : wk_sh ((cb p).toInt % 256) = 3
          · obtain ⟨-, k2, k3⟩ := h4 c3
            match pre, k2, k3 with
            | [], _, k3 => exact ⟨p, (k3 o e t rfl).1, Nat.le_refl _⟩
            | (a, none) :: pre', k2, _ =>
              obtain ⟨q, g1, g2⟩ := wk_els m (p + 1) pre' o e t (.inr trivial) (k2 a _ rfl).2.2
              exact ⟨q, g1, by omega⟩
            | (a, some y) :: pre', _, k3 =>
              obtain ⟨q, g1, g2⟩ := wk_els m (p + 1) pre' o e t (.inr trivial) (k3 a y _ rfl).2.2
              exact ⟨q, g1, by omega⟩
          · obtain ⟨q, k1, k2, k3, k4⟩ := h5 (by omega)
            obtain ⟨q', g1, g2⟩ := wk_els m q pre o e t (.inr trivial) k4
            exact ⟨q', g1, by have := k2.1; omega⟩
theorem dxF.fwd {cA : Nat → Int32} {b N : Nat} {d : mD} (hX : dX d = dxF cA b N (dcb d) (dnu d)) : fwd d := by
  intro k p0 E ν0 G hx a c gs hG h5
  rw [hX] at hx
  obtain ⟨-, -, ⟨V, h1, h2, h3⟩, -⟩ := hx
  obtain ⟨hV, m, st, hw, -, -⟩ := h3 a c gs hG
  have s2 : wk_sh ((dcb d a).toInt % 256) = 2 := by rw [h5]; rfl
  have en := (h2 a hV).2.2.2.2.1 (.inl s2)
  cases m with
  | zero => exact hw.elim
  | succ m =>
    obtain ⟨o, st', -, -, -, k4⟩ := hw.2.2.2.1 s2
    obtain ⟨q, g1, g2⟩ := wk_els m (a + 1) [] o a st' (.inr trivial) k4
    rw [en, g1]
    omega
section CCM
variable {own : Nat → Nat} {h : xb_H} {cA ω : Nat → Int32} {b N md : Nat} {d : mD} {S : Sm}
theorem ldR.moB (hm : mo own h md d) (hL : ldR cA b N d ω S) (hX : dX d = dxF cA b N (dcb d) (dnu d)) : moB d := by
  intro k h1 h2
  obtain ⟨n1, n2, n3, n4, n5, n6, n7, n8⟩ := hm.nn
  obtain ⟨⟨m8, e8⟩, ⟨m9, e9⟩, hsum, -⟩ := hm.2.1.2.2.2.2.2.2.2.2.1
  obtain ⟨vs0, νr, hE, k9, k9', -, ⟨en, hJ, hνj, hbd⟩, hcx, hdN, hS10⟩ := hL
  have e0 := n5 0 (by omega)
  have hb : k - ni d 0 < dn d 9 / 5 := by
    rw [e0] at hsum
    unfold nf at *
    omega
  obtain ⟨i, t, p0, lcn, lo, ν0, g, a1, a2, a3, a4, a5, a6, a7, a8, a9, a10, a11, a12, a13, a14, a15, G, V, ⟨b1, b2, b3, b4, b5⟩, b6⟩ := hbd _ hb
  obtain ⟨c1, c2, c3, c4⟩ := hm.ty a4
  have ei : i = k := by omega
  subst ei
  obtain ⟨q9, r9⟩ := hE.2.2.2.2.2.2.2.1
  obtain ⟨f, w1, w2, -⟩ := r9 (i - ni d 0) (by omega)
  have ep : (lgE cA (cV cA (cE cA (S.2 10 (i - ni d 0)))) (cE cA (cE cA (S.2 10 (i - ni d 0))))) = b + p0 := by
    have y1 := w2.1
    have y2 : dvs d 9 (5 * (i - ni d 0)) = vs0 9 (5 * (i - ni d 0)) := k9' _ (fun j hj => by omega)
    dsimp only at y1
    rw [Nat.add_zero, ← y2, a5] at y1
    omega
  obtain ⟨-, w3, m, w4⟩ := w1
  rw [ep] at w4
  refine ⟨t, (dvs d 0 (5 * t + 2)).toInt.toNat, lcn, p0, en 9 (i - ni d 0), lo, ν0, g.toNat, G, ⟨⟨h1, h2, a3, a4, by omega⟩, ⟨a5, a6, a7, a8, by rw [hdN]; exact a9, by rw [a10]; omega, by rw [hdN]; omega, a13⟩, b1, fun a c gs hG => ?_, b3, b4, b5, ?_⟩, by omega⟩
  · obtain ⟨⟨d1, d2, d3, d4, d5⟩, d6⟩ := b2 a c gs hG
    exact ⟨⟨d1, d2, by omega, d4, d5⟩, d6⟩
  · rw [hX]
    exact ⟨a9, hcx, ⟨V, b6⟩, νr, _, m, w4, w3, a14⟩
end CCM
