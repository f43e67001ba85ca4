-- the reference: run, its beginning
/-- the first call's outcome, its trap as it is noted -/
def tz0 (z : cZ) (z' : rZ) : Prop := match z with
  | .inl y => z' = .inl y
  | .inr κ => z' = .inr (κ, -1, -1, -1)
/-- the values as a run begins -/
def agW (A : Nat → Nat) (F : Nat → Nat → Int32) (DM : Nat → zM) (f : Nat) (p ω : Nat → Int64) (n : Nat) (j : Nat) : Int64 := if j < n then arV (fPk (fun k => F (A k)) DM f j) (p j) else ω j
section MSW
variable {own : Nat → Nat} {mm m i ip k f t b nl o top q a o1 op base : Nat} {A : Nat → Nat} {h h' h2 : xb_H} {F F' F2 : Nat → Nat → Int32} {v v' v2 : Nat → Int32} {D : zM} {DM : Nat → zM} {len rl K : Nat} {Q : xb_H → Prop} {Qr : Int32 → xb_H → Prop} {Ql : Int64 → xb_H → Prop} {φ φ' : Nat → Nat → Int32} {ν ν' : Nat → Int32}
theorem fPk.st (h31 : φ' 31 = φ 31) (h44 : φ' 44 = φ 44) (h45 : φ' 45 = φ 45) : fPk φ' DM f k = fPk φ DM f k := by
  obtain ⟨em, et, -, -⟩ := fMo.st (DM := DM) h31 h44 h45
  unfold fPk
  rw [em, et]
theorem r_run {x1 : Int32} {J : Nat → rZ → rWd → Prop} (hA : rA own mm A h F v DM len rl (K + 1)) (hv : vmk A h F) (hJs : jRS A F DM (xb_l h (A 55)) J) (hJp : ∀ lf z w, J lf (.inr z) w → 0 < z.1.toInt)
    (hJc : ∀ lf : Nat, x1.toInt = lf → v 62 ≠ 0 → v 63 ≠ 0 → v 82 = 0 ∧ ∃ (cs : List cX) (n : Nat), rSt A F v DM cs n ∧ J lf (.inl (cs, n, xb_l h (A 74))) (rwd A h F v))
    (hJb : ∀ (lf f : Nat) (w' : rWd) (z : cZ) (z' : rZ), x1.toInt = lf → v 62 ≠ 0 → v 63 = 0 → (v 64).toInt = f → caR A F DM [] 0 f (agW A F DM f (xb_l h (A 67)) (xb_l h (A 74)) (fPl (fun k => F (A k)) DM f).length) (rwd A h F v) w' z → tz0 z z' → J lf z' w')
    (hQ0 : ∀ y0 : Int32, (((x1.toInt < 0 ∨ 1000000 < x1.toInt) ∧ y0 = 1) ∨ ((0 ≤ x1.toInt ∧ x1.toInt ≤ 1000000) ∧ v 62 = 0 ∧ y0 = 2)) → rA own mm A h F (va_up v 0 y0) DM len rl K → Qr 0 (mH h F mm (va_up v 0 y0)))
    (hQ : (0 ≤ x1.toInt ∧ x1.toInt ≤ 1000000) → v 62 ≠ 0 → ∀ (vS : Nat → Int32), (∀ j, j ∉ rnV → j ≠ 0 → j ≠ 95 → j ≠ 63 → vS j = v j) → vS 0 = 0 → vS 63 ≠ 0 → ∀ (r : Int32) (h' : xb_H) (F' : Nat → Nat → Int32) (v' : Nat → Int32), rEd own mm A h F vS DM len rl K J r h' F' v' → Qr r (mH h' F' mm v')) : w_M_run mm x1 (mH h F mm v) Qr := by
  have hB := hA.B
  have hA0 := hA.dn
  have hU0 : rU own mm A h F v DM len rl K := hA0.N
  obtain ⟨g67, k67, n67, m67⟩ := hB.kx (k := 67) (kd := 103) (n := 1000) (by decide) (by decide)
  -- what is wrong ahead of it
  have bad : ∀ y0 : Int32, 0 < y0.toInt → (((x1.toInt < 0 ∨ 1000000 < x1.toInt) ∧ y0 = 1) ∨ ((0 ≤ x1.toInt ∧ x1.toInt ≤ 1000000) ∧ v 62 = 0 ∧ y0 = 2)) → w_M_run_L28 Qr mm x1 y0 mm (mH h F mm v) := by
    intro y0 hy0 hy1
    unfold w_M_run_L28
    refine ⟨hB.2.1, fun h2 e2 => ?_⟩
    rw [mH_I] at e2
    subst e2
    rw [mH_i, xh_up, if_pos rfl]
    refine ⟨hB.2.1, fun hle => ?_, fun _ => hQ0 y0 hy1 (hA0.u (by decide))⟩
    rw [z_le] at hle
    simp only [Int32.reduceToInt] at hle
    omega
  have good : (0 ≤ x1.toInt ∧ x1.toInt ≤ 1000000) → v 62 ≠ 0 → w_M_run_L28 Qr mm x1 0 mm (mH h F mm v) := by
    intro hx0 h62
    obtain ⟨lf, hlf⟩ : ∃ lf : Nat, x1.toInt = lf := ⟨x1.toInt.toNat, by omega⟩
    obtain ⟨f, w1, w2, w3, w4⟩ := hA.I.2.2.2.2 h62
    have n43 := (hA.n (k := 43) (b := 8192) (by decide)).2
    unfold w_M_run_L28
    refine ⟨hB.2.1, fun h2 e2 => ?_⟩
    rw [mH_I] at e2
    subst e2
    rw [mH_i, xh_up, if_pos rfl]
    refine ⟨hB.2.1, fun _ h5 e5 => ?_, fun h9 => absurd (by decide) h9⟩
    rw [mH_I] at e5
    subst e5
    rw [mH_i, xh_up, if_neg (by decide), xh_up, if_neg (by decide)]
    have vA : ∀ j, j ≠ 0 → j ≠ 95 → va_up (va_up v 0 0) 95 x1 j = v j := fun j h1 h2 => by rw [xh_up, if_neg h2, xh_up, if_neg h1]
    refine ⟨fun h63 => ?_, fun h63 h7 e7 h8 e8 h9 e9 h10 e10 h11 e11 => ?_⟩
    · -- it goes on
      obtain ⟨c82, cs, n, hst, hj⟩ := hJc lf hlf h62 h63
      have e43 : vN (va_up (va_up v 0 0) 95 x1) 43 = vN v 43 := by
        unfold vN
        rw [vA 43 (by decide) (by decide)]
      have eW : rwd A h F (va_up (va_up v 0 0) 95 x1) = rwd A h F v := by
        unfold rwd
        rw [vA 53 (by decide) (by decide), vA 88 (by decide) (by decide)]
      have hst' : rSt A F (va_up (va_up v 0 0) 95 x1) DM cs n := by
        obtain ⟨g1, g2, g3⟩ := hst
        refine ⟨by rw [vA 68 (by decide) (by decide)]; exact g1, fun e => by rw [vA 76 (by decide) (by decide)]; exact g2 e, fun e => ?_⟩
        obtain ⟨top, opens, z2, z3, z4⟩ := g3 e
        exact ⟨top, opens, by rw [vA 76 (by decide) (by decide)]; exact z2, by rw [vA 81 (by decide) (by decide)]; exact z3, z4.fr rfl rfl rfl e43 (fun _ _ _ _ => rfl) (fun _ _ => rfl) (fun _ _ _ _ => rfl)⟩
      refine ⟨_, n_loop hJs hJp (hQ hx0 h62 (va_up (va_up v 0 0) 95 x1) (fun j _ a1 a2 _ => vA j a1 a2) (by rw [xh_up, if_neg (by decide), xh_up, if_pos rfl]) (by rw [vA 63 (by decide) (by decide)]; exact h63)) (lf * 2400001 + 2400001) h F _ lf (by rw [xh_up, if_pos rfl]; exact hlf) (n_vv hU0 (fun k hk => vA k ((by decide : ∀ k, k ∈ vW1 → k ≠ 0) k hk) ((by decide : ∀ k, k ∈ vW1 → k ≠ 95) k hk))) f0.rf xB.rf (fun _ _ _ _ _ => rfl) hv ⟨by rw [vA 62 (by decide) (by decide)]; exact h62, by rw [vA 63 (by decide) (by decide)]; exact h63, f, by rw [vA 64 (by decide) (by decide)]; exact w1, ?_⟩ (.inl ⟨by rw [vA 82 (by decide) (by decide)]; exact c82, rfl, cs, n, hst', by rw [eW]; exact hj, fun h9 => ?_⟩)⟩
      · unfold fnO
        rw [e43]
        exact w2
      · have q1 := mu_le (cs := cs)
        obtain ⟨top, opens, z2, z3, z4⟩ := hst.2.2 h9
        have q2 := z4.lc
        omega
    · -- it begins
      rw [mH_I] at e7
      subst e7
      rw [mH_I] at e8
      subst e8
      rw [mH_I] at e9
      subst e9
      rw [mH_I] at e10
      subst e10
      rw [mH_I] at e11
      subst e11
      generalize hvB : va_up (va_up (va_up (va_up (va_up (va_up (va_up v 0 0) 95 x1) 63 1) 82 0) 76 0) 81 0) 68 0 = vB
      have vb : ∀ j, j ∉ [0, 95, 63, 82, 76, 81, 68] → vB j = v j := fun j hj => by
        have q : ∀ i, i ∈ [0, 95, 63, 82, 76, 81, 68] → j ≠ i := fun i hi e => hj (e ▸ hi)
        rw [← hvB, xh_up, if_neg (q 68 (by decide)), xh_up, if_neg (q 81 (by decide)), xh_up, if_neg (q 76 (by decide)), xh_up, if_neg (q 82 (by decide)), xh_up, if_neg (q 63 (by decide)), xh_up, if_neg (q 95 (by decide)), xh_up, if_neg (q 0 (by decide))]
      have b0 : vB 0 = 0 := by rw [← hvB, xh_up, if_neg (by decide), xh_up, if_neg (by decide), xh_up, if_neg (by decide), xh_up, if_neg (by decide), xh_up, if_neg (by decide), xh_up, if_neg (by decide), xh_up, if_pos rfl]
      have b68 : vB 68 = 0 := by rw [← hvB, xh_up, if_pos rfl]
      have b81 : vB 81 = 0 := by rw [← hvB, xh_up, if_neg (by decide), xh_up, if_pos rfl]
      have b76 : vB 76 = 0 := by rw [← hvB, xh_up, if_neg (by decide), xh_up, if_neg (by decide), xh_up, if_pos rfl]
      have b82 : vB 82 = 0 := by rw [← hvB, xh_up, if_neg (by decide), xh_up, if_neg (by decide), xh_up, if_neg (by decide), xh_up, if_pos rfl]
      have b63 : vB 63 = 1 := by rw [← hvB, xh_up, if_neg (by decide), xh_up, if_neg (by decide), xh_up, if_neg (by decide), xh_up, if_neg (by decide), xh_up, if_pos rfl]
      have b95 : vB 95 = x1 := by rw [← hvB, xh_up, if_neg (by decide), xh_up, if_neg (by decide), xh_up, if_neg (by decide), xh_up, if_neg (by decide), xh_up, if_neg (by decide), xh_up, if_pos rfl]
      have hUB : rU own mm A h F vB DM len rl K := n_vv hU0 (fun k hk => vb k ((by decide : ∀ k, k ∈ vW1 → k ∉ [0, 95, 63, 82, 76, 81, 68]) k hk))
      have hN := w3 h63
      obtain ⟨n93, n93'⟩ := hA.n (k := 93) (b := 1000) (by decide)
      have loop : ∀ (n j : Nat) (h1 : xb_H) (F1 : Nat → Nat → Int32) (v1 : Nat → Int32) (x2 : Int32), n + j = (fPl (fun k => F (A k)) DM f).length → x2.toInt = j → sF own A h F vB h1 F1 v1 → (∀ a, a ≠ A 75 → F1 a = F a) → (∀ j, j ∉ [14, 15, 16, 17, 18, 76] → v1 j = vB j) → v1 17 = 0 → (v1 76).toInt = j → (∀ i, i < j → (F1 (A 75) i).toInt = fPk (fun k => F (A k)) DM f i) → xb_l h1 (A 74) = agW A F DM f (xb_l h (A 67)) (xb_l h (A 74)) j → w_M_run_L79 Qr (n + 1) mm x2 (mH h1 F1 mm v1) := by
        intro n
        induction n with
        | zero =>
          intro j h1 F1 v1 x2 hj hx2 s1 f1 u1 u17 u76 ut uag
          have hB1 : mB own mm A h1 := hB.f s1.1.1
          have hU1 := hUB.sF s1 u17 (by rw [u1 94 (by decide)]; exact hUB.W1.2.1.2.2)
          have fk : ∀ k, (∃ e ∈ aL, e.1 = k) → k ≠ 75 → F1 (A k) = F (A k) := fun k g1 g2 => f1 _ (hB.ne g1 (by decide) g2)
          obtain ⟨em, et, ep, er⟩ := fMo.st (DM := DM) (φ := fun k => F (A k)) (φ' := fun k => F1 (A k)) (fk 31 (by decide) (by decide)) (fk 44 (by decide) (by decide)) (fk 45 (by decide) (by decide))
          have e43 : vN v1 43 = vN v 43 := by
            unfold vN
            rw [u1 43 (by decide), vb 43 (by decide)]
          have hfo : fnO v1 f := by
            unfold fnO
            rw [e43]
            exact w2
          unfold w_M_run_L79
          rw [mH_i]
          refine ⟨hB1.2.1, fun _ => ?_, fun hle => ?_⟩
          · refine n_call (cs := []) (base := 0) (o := 0) hU1 (by rw [u1 64 (by decide), vb 64 (by decide)]; exact w1) hfo (by rw [u1 68 (by decide), b68]; rfl) (by rw [u76, ep]; congr 1; omega) (by rw [u1 81 (by decide), b81]; rfl) ⟨rfl, rfl⟩ ?_ (fun e => absurd rfl e) (by rw [u1 82 (by decide), b82]) (by rw [ep]; omega) (fun h3 F3 v3 w3' z3 hp hca _ => ?_)
            · rw [ep]
              refine fPk_to (fun k hk => ?_)
              rw [show 0 + k = k by omega]
              exact ut k (by omega)
            · obtain ⟨p1, pW, p3⟩ := hp
              have p2 : rU own mm A h3 F3 v3 DM len rl K := by
                cases z3 with
                | inl z => exact p3.1
                | inr κ => exact p3.1
              have e8 : ∀ κ, z3 = .inr κ → (v3 68).toInt = 0 := fun κ e => by
                subst e
                rw [p3.2.2.2.1, u1 68 (by decide), b68]
                rfl
              refine n_noteTrap p2 (fun h9 => .inl ?_) (fun w hw _ => ?_)
              · cases z3 with
                | inl z => exact absurd p3.2.1 h9
                | inr κ => exact e8 κ rfl
              · obtain ⟨q1, q2, q3, q4, q5⟩ := n_86 (w := w) p2
                have eWB : rwd A h F vB = rwd A h F v := by
                  unfold rwd
                  rw [vb 53 (by decide), vb 88 (by decide)]
                have ej : j = (fPl (fun k => F (A k)) DM f).length := by omega
                rw [uag, ej, s1.W hB, eWB] at hca
                have hca' : caR A F DM [] 0 f (agW A F DM f (xb_l h (A 67)) (xb_l h (A 74)) (fPl (fun k => F (A k)) DM f).length) (rwd A h F v) w3' z3 := by
                  unfold caR at hca ⊢
                  rw [fk 44 (by decide) (by decide), fk 31 (by decide) (by decide), fk 45 (by decide) (by decide), fk 8 (by decide) (by decide), fk 12 (by decide) (by decide)] at hca
                  exact hca
                have stp : ∀ z', tz0 z3 z' → J lf z' w3' := fun z' hz => hJb lf f w3' z3 z' hlf h62 h63 w1 hca' hz
                have x1B : xB mm A h F h1 F1 := (s1.xK hB).B
                have x3B : xB mm A h1 F1 h3 F3 := p1.1.2.B
                have f86 : F3 (A 86) = F (A 86) := by rw [p1.1.2.1 86 (by decide), fk 86 (by decide) (by decide)]
                have vv3 : ∀ j, j ∉ rnV → j ≠ 53 → j ≠ 88 → v3 j = vB j := fun j a1 a2 a3 => by rw [p1.2 j a1 a2 a3, u1 j (fun h9 => a1 ((by decide : ∀ j, j ∈ [14, 15, 16, 17, 18, 76] → j ∈ rnV) j h9))]
                have e433 : vN v3 43 = vN v 43 := by
                  unfold vN
                  rw [vv3 43 (by decide) (by decide) (by decide), vb 43 (by decide)]
                refine ⟨_, n_loop hJs hJp (hQ hx0 h62 vB (fun j a0 a1 a2 a3 => vb j (fun h9 => by
                    have q : ∀ j, j ∈ [0, 95, 63, 82, 76, 81, 68] → j ∈ rnV ∨ j = 0 ∨ j = 95 ∨ j = 63 := by decide
                    rcases q j h9 with e | e | e | e
                    · exact a0 e
                    · exact a1 e
                    · exact a2 e
                    · exact a3 e)) b0 (by rw [b63]; decide)) (lf * 2400001 + 2400001) h3 _ v3 lf (by rw [vv3 95 (by decide) (by decide) (by decide), b95]; exact hlf) q1 ((s1.1.1.tr p1.1.1).tr q2) (x1B.tr (x3B.tr q4)) (fun j a1 a2 a3 _ => vv3 j a1 a2 a3) (q4.2.2.2 (x3B.2.2.2 (x1B.2.2.2 hv))) ⟨by rw [vv3 62 (by decide) (by decide) (by decide), vb 62 (by decide)]; exact h62, by rw [vv3 63 (by decide) (by decide) (by decide), b63]; decide, f, by rw [vv3 64 (by decide) (by decide) (by decide), vb 64 (by decide)]; exact w1, ?_⟩ ?_⟩
                · unfold fnO
                  rw [e433]
                  exact w2
                · rw [xh_up, if_pos rfl, q5, pW]
                  cases z3 with
                  | inl z =>
                    obtain ⟨cs', m', ω'⟩ := z
                    obtain ⟨-, g82, gst, gω⟩ := p3
                    refine .inl ⟨g82, by rw [hw.1 g82, f86], cs', m', q3 _ _ gst, ?_, fun h9 => ?_⟩
                    · rw [gω]
                      exact stp _ rfl
                    · have z1 := mu_le (cs := cs')
                      obtain ⟨top', opens', -, -, d5⟩ := gst.2.2 h9
                      have z2 := d5.lc
                      omega
                  | inr κ =>
                    obtain ⟨-, g82, gκ, -⟩ := p3
                    have n82 : v3 82 ≠ 0 := by rw [g82]; exact gκ
                    obtain ⟨w0, w5, -⟩ := hw.2 n82
                    exact .inr ⟨n82, (κ, -1, -1, -1), stp _ rfl, g82, by rw [w0, g82], w5 (e8 κ rfl)⟩
          · exfalso
            apply hle
            rw [z_le, hx2, u1 93 (by decide), vb 93 (by decide), n93]
            omega
        | succ n ih =>
          intro j h1 F1 v1 x2 hj hx2 s1 f1 u1 u17 u76 ut uag
          have hB1 : mB own mm A h1 := hB.f s1.1.1
          obtain ⟨g67', k67', n67', m67'⟩ := hB1.kx (k := 67) (kd := 103) (n := 1000) (by decide) (by decide)
          have hU1 := hUB.sF s1 u17 (by rw [u1 94 (by decide)]; exact hUB.W1.2.1.2.2)
          have fk : ∀ k, (∃ e ∈ aL, e.1 = k) → k ≠ 75 → F1 (A k) = F (A k) := fun k g1 g2 => f1 _ (hB.ne g1 (by decide) g2)
          obtain ⟨em, et, ep, er⟩ := fMo.st (DM := DM) (φ := fun k => F (A k)) (φ' := fun k => F1 (A k)) (fk 31 (by decide) (by decide)) (fk 44 (by decide) (by decide)) (fk 45 (by decide) (by decide))
          have e43 : vN v1 43 = vN v 43 := by
            unfold vN
            rw [u1 43 (by decide), vb 43 (by decide)]
          have hfo : fnO v1 f := by
            unfold fnO
            rw [e43]
            exact w2
          have o74 : 60 ≤ own (A 74) := by rw [hB.o (by decide)]; omega
          unfold w_M_run_L79
          rw [mH_i]
          refine ⟨hB1.2.1, fun hle => ?_, fun _ => ⟨A 67, g67', k67', z_vin hx2 n67' (by omega), ?_⟩⟩
          · rw [z_le, hx2, u1 93 (by decide), vb 93 (by decide), n93] at hle
            omega
          · refine n_parameterOf hU1 (by rw [u1 64 (by decide), vb 64 (by decide)]; exact w1) hfo hx2 (by rw [ep]; omega) (fun v3 r11 g3 w3' e11 t1 t2 _ => ?_)
            rw [fPk.st (φ := fun k => F (A k)) (φ' := fun k => F1 (A k)) (fk 31 (by decide) (by decide)) (fk 44 (by decide) (by decide)) (fk 45 (by decide) (by decide))] at e11
            have u76' : (v3 76).toInt = j := by rw [g3 76 (by decide) (by decide) (by decide) (by decide) (by decide)]; exact u76
            refine n_addE hB1 u76' (by omega) (by omega) (fun w9 ew _ => ?_)
            have s2 := ((s1.tr g3.sF).tr (sF.L (j := j) (x := xb_l (mH h1 F1 mm v1) (A 67) x2.toNatClampNeg) hB1 ew)).tr (sF.v1 (k := 76) (x := v3 76 + 1) (by decide))
            refine ih (j + 1) _ _ _ (x2 + 1) (by omega) (z_inc hx2 (by omega)) s2 (fun a ha => by rw [xh_up, if_neg ha]; exact f1 a ha) (fun j' hj' => ?_) (by rw [xh_up, if_neg (by decide)]; exact w3') (by rw [xh_up, if_pos rfl]; exact z_inc u76' (by omega)) (fun i hi => ?_) ?_
            · have q : ∀ i, i ∈ [14, 15, 16, 17, 18, 76] → j' ≠ i := fun i hi e => hj' (e ▸ hi)
              rw [xh_up, if_neg (q 76 (by decide)), g3 j' (q 14 (by decide)) (q 15 (by decide)) (q 16 (by decide)) (q 17 (by decide)) (q 18 (by decide)), u1 j' hj']
            · rw [xh_up, if_pos rfl]
              rcases Nat.lt_or_ge i j with h8' | h8'
              · rw [xh_up, if_neg (by omega)]
                exact ut i h8'
              · have : i = j := by omega
                subst this
                rw [xh_up, if_pos rfl, ew]
                exact e11
            · have c2 : x2.toNatClampNeg = j := by rw [z_cl, hx2]; omega
              have e67 : xb_l (mH h1 F1 mm v1) (A 67) x2.toNatClampNeg = xb_l h (A 67) j := by
                rw [c2]
                show xb_l h1 (A 67) j = _
                rw [s1.1.2.1 _ (hB.ne (by decide) (by decide) (by decide))]
              rw [xl_L, e67, e11, uag]
              funext i
              rw [xh_up]
              unfold agW
              by_cases h8 : i = j
              · rw [if_pos h8, if_pos (by omega), h8]
              · rw [if_neg h8]
                by_cases h7 : i < j
                · rw [if_pos h7, if_pos (by omega)]
                · rw [if_neg h7, if_neg (by omega)]
      exact ⟨_, loop (fPl (fun k => F (A k)) DM f).length 0 h F vB 0 rfl rfl sF.rf (fun _ _ => rfl) (fun _ _ => rfl) hUB.z (by rw [b76]; rfl) (fun i hi => absurd hi (Nat.not_lt_zero i)) (by funext i; unfold agW; rw [if_neg (Nat.not_lt_zero i)])⟩
  unfold w_M_run
  refine ⟨fun hx0 => ?_, fun hx0 => ⟨fun hx1 => ⟨hB.2.1, ?_⟩, fun hx1 => ?_⟩⟩
  · unfold w_M_run_L12
    exact bad 1 (by decide) (.inl ⟨.inl (by rw [z_lt] at hx0; simp only [Int32.reduceToInt] at hx0; exact hx0), rfl⟩)
  · rw [mH_i]
    rw [z_lt] at hx0
    rw [z_le] at hx1
    simp only [Int32.reduceToInt] at hx0 hx1
    exact ⟨fun h62 => good ⟨by omega, hx1⟩ h62, fun h62 => bad 2 (by decide) (.inr ⟨⟨by omega, hx1⟩, h62, rfl⟩)⟩
  · unfold w_M_run_L12
    rw [z_le] at hx1
    simp only [Int32.reduceToInt] at hx1
    exact bad 1 (by decide) (.inl ⟨.inr (by omega), rfl⟩)
end MSW
