-- the reference: run, its beginning
section MSW
variable {own : Nat → Nat} {mm m i ip k f t b nl o top q a o1 op base : Nat} {A : Nat → Nat} {h h' h2 : xb_H} {F F' F2 : Nat → Nat → Int32} {v v' v2 : Nat → Int32} {D : zM} {DM : Nat → zM} {len rl K : Nat} {Q : xb_H → Prop} {Qr : Int32 → xb_H → Prop} {Ql : Int64 → xb_H → Prop} {φ φ' : Nat → Nat → Int32} {ν ν' : Nat → Int32}
theorem fPk.st (h31 : φ' 31 = φ 31) (h44 : φ' 44 = φ 44) (h45 : φ' 45 = φ 45) : fPk φ' DM f k = fPk φ DM f k := by
  obtain ⟨em, et, -, -⟩ := fMo.st (DM := DM) h31 h44 h45
  unfold fPk
  rw [em, et]
theorem r_run {x1 : Int32} (hA : rA own mm A h F v DM len rl (K + 1)) (hQ : ∀ r, rPq own mm A h F DM len rl K (Qr r)) : w_M_run mm x1 (mH h F mm v) Qr := by
  have hB := hA.B
  have hA0 := hA.dn
  have hU0 : rU own mm A h F v DM len rl K := hA0.N
  obtain ⟨g67, k67, n67, m67⟩ := hB.kx (k := 67) (kd := 103) (n := 1000) (by decide) (by decide)
  -- what is wrong ahead of it
  have bad : ∀ y0 : Int32, 0 < y0.toInt → w_M_run_L28 Qr mm x1 y0 mm (mH h F mm v) := by
    intro y0 hy0
    unfold w_M_run_L28
    refine ⟨hB.2.1, fun h2 e2 => ?_⟩
    rw [mH_I] at e2
    subst e2
    rw [mH_i, xh_up, if_pos rfl]
    refine ⟨hB.2.1, fun hle => ?_, fun _ => hQ 0 _ _ _ f0.rf (hA0.u (by decide))⟩
    rw [z_le] at hle
    simp only [Int32.reduceToInt] at hle
    omega
  have good : 0 ≤ x1.toInt → v 62 ≠ 0 → w_M_run_L28 Qr mm x1 0 mm (mH h F mm v) := by
    intro hx0 h62
    obtain ⟨lf, hlf⟩ : ∃ lf : Nat, x1.toInt = lf := ⟨x1.toInt.toNat, by omega⟩
    obtain ⟨f, w1, w2, w3, w4⟩ := hA.I.2.2.2.2 h62
    have n43 := (hA.n (k := 43) (b := 8192) (by decide)).2
    unfold w_M_run_L28
    refine ⟨hB.2.1, fun h2 e2 => ?_⟩
    rw [mH_I] at e2
    subst e2
    rw [mH_i, xh_up, if_pos rfl]
    refine ⟨hB.2.1, fun _ h5 e5 => ?_, fun h9 => absurd (by decide) h9⟩
    rw [mH_I] at e5
    subst e5
    rw [mH_i, xh_up, if_neg (by decide), xh_up, if_neg (by decide)]
    have vA : ∀ j, j ≠ 0 → j ≠ 95 → va_up (va_up v 0 0) 95 x1 j = v j := fun j h1 h2 => by rw [xh_up, if_neg h2, xh_up, if_neg h1]
    refine ⟨fun h63 => ?_, fun h63 h7 e7 h8 e8 h9 e9 h10 e10 h11 e11 => ?_⟩
    · -- it goes on
      obtain ⟨cs, top, opens, z1, z2, z3, z4⟩ := w4 h63
      have e43 : vN (va_up (va_up v 0 0) 95 x1) 43 = vN v 43 := by
        unfold vN
        rw [vA 43 (by decide) (by decide)]
      refine ⟨_, n_loop hQ (lf * 2400001 + 2400001) h F _ lf (by rw [xh_up, if_pos rfl]; exact hlf) (n_vv hU0 (fun k hk => vA k ((by decide : ∀ k, k ∈ vW1 → k ≠ 0) k hk) ((by decide : ∀ k, k ∈ vW1 → k ≠ 95) k hk))) f0.rf ⟨by rw [vA 62 (by decide) (by decide)]; exact h62, by rw [vA 63 (by decide) (by decide)]; exact h63, f, by rw [vA 64 (by decide) (by decide)]; exact w1, ?_⟩ (fun _ => ?_)⟩
      · unfold fnO
        rw [e43]
        exact w2
      · cases cs with
        | nil =>
          refine .inl ?_
          rw [vA 68 (by decide) (by decide), z1]
          rfl
        | cons x r =>
          refine .inr ⟨x :: r, top, opens, by simp, by rw [vA 68 (by decide) (by decide)]; exact z1, by rw [vA 76 (by decide) (by decide)]; exact z2, by rw [vA 81 (by decide) (by decide)]; exact z3, z4.fr rfl rfl rfl e43 (fun _ _ _ _ => rfl) (fun _ _ => rfl) (fun _ _ _ _ => rfl), ?_⟩
          have q1 := mu_le (cs := x :: r)
          have q2 := z4.lc
          omega
    · -- it begins
      rw [mH_I] at e7
      subst e7
      rw [mH_I] at e8
      subst e8
      rw [mH_I] at e9
      subst e9
      rw [mH_I] at e10
      subst e10
      rw [mH_I] at e11
      subst e11
      generalize hvB : va_up (va_up (va_up (va_up (va_up (va_up (va_up v 0 0) 95 x1) 63 1) 82 0) 76 0) 81 0) 68 0 = vB
      have vb : ∀ j, j ∉ [0, 95, 63, 82, 76, 81, 68] → vB j = v j := fun j hj => by
        have q : ∀ i, i ∈ [0, 95, 63, 82, 76, 81, 68] → j ≠ i := fun i hi e => hj (e ▸ hi)
        rw [← hvB, xh_up, if_neg (q 68 (by decide)), xh_up, if_neg (q 81 (by decide)), xh_up, if_neg (q 76 (by decide)), xh_up, if_neg (q 82 (by decide)), xh_up, if_neg (q 63 (by decide)), xh_up, if_neg (q 95 (by decide)), xh_up, if_neg (q 0 (by decide))]
      have b68 : vB 68 = 0 := by rw [← hvB, xh_up, if_pos rfl]
      have b81 : vB 81 = 0 := by rw [← hvB, xh_up, if_neg (by decide), xh_up, if_pos rfl]
      have b76 : vB 76 = 0 := by rw [← hvB, xh_up, if_neg (by decide), xh_up, if_neg (by decide), xh_up, if_pos rfl]
      have b82 : vB 82 = 0 := by rw [← hvB, xh_up, if_neg (by decide), xh_up, if_neg (by decide), xh_up, if_neg (by decide), xh_up, if_pos rfl]
      have b63 : vB 63 = 1 := by rw [← hvB, xh_up, if_neg (by decide), xh_up, if_neg (by decide), xh_up, if_neg (by decide), xh_up, if_neg (by decide), xh_up, if_pos rfl]
      have b95 : vB 95 = x1 := by rw [← hvB, xh_up, if_neg (by decide), xh_up, if_neg (by decide), xh_up, if_neg (by decide), xh_up, if_neg (by decide), xh_up, if_neg (by decide), xh_up, if_pos rfl]
      have hUB : rU own mm A h F vB DM len rl K := n_vv hU0 (fun k hk => vb k ((by decide : ∀ k, k ∈ vW1 → k ∉ [0, 95, 63, 82, 76, 81, 68]) k hk))
      have hN := w3 h63
      obtain ⟨n93, n93'⟩ := hA.n (k := 93) (b := 1000) (by decide)
      have loop : ∀ (n j : Nat) (h1 : xb_H) (F1 : Nat → Nat → Int32) (v1 : Nat → Int32) (x2 : Int32), n + j = (fPl (fun k => F (A k)) DM f).length → x2.toInt = j → sF own A h F vB h1 F1 v1 → (∀ a, a ≠ A 75 → F1 a = F a) → (∀ j, j ∉ [14, 15, 16, 17, 18, 76] → v1 j = vB j) → v1 17 = 0 → (v1 76).toInt = j → (∀ i, i < j → (F1 (A 75) i).toInt = fPk (fun k => F (A k)) DM f i) → w_M_run_L79 Qr (n + 1) mm x2 (mH h1 F1 mm v1) := by
        intro n
        induction n with
        | zero =>
          intro j h1 F1 v1 x2 hj hx2 s1 f1 u1 u17 u76 ut
          have hB1 : mB own mm A h1 := hB.f s1.1
          have hU1 := hUB.sF s1 u17 (by rw [u1 94 (by decide)]; exact hUB.W1.2.1.2.2)
          have fk : ∀ k, (∃ e ∈ aL, e.1 = k) → k ≠ 75 → F1 (A k) = F (A k) := fun k g1 g2 => f1 _ (hB.ne g1 (by decide) g2)
          obtain ⟨em, et, ep, er⟩ := fMo.st (DM := DM) (φ := fun k => F (A k)) (φ' := fun k => F1 (A k)) (fk 31 (by decide) (by decide)) (fk 44 (by decide) (by decide)) (fk 45 (by decide) (by decide))
          have e43 : vN v1 43 = vN v 43 := by
            unfold vN
            rw [u1 43 (by decide), vb 43 (by decide)]
          have hfo : fnO v1 f := by
            unfold fnO
            rw [e43]
            exact w2
          unfold w_M_run_L79
          rw [mH_i]
          refine ⟨hB1.2.1, fun _ => ?_, fun hle => ?_⟩
          · refine n_call (cs := []) (base := 0) (o := 0) hU1 (by rw [u1 64 (by decide), vb 64 (by decide)]; exact w1) hfo (by rw [u1 68 (by decide), b68]; rfl) (by rw [u76, ep]; congr 1; omega) (by rw [u1 81 (by decide), b81]; rfl) ⟨rfl, rfl⟩ ?_ (fun e => absurd rfl e) (by rw [u1 82 (by decide), b82]) (by rw [ep]; omega) (fun h3 F3 v3 hp _ => ?_)
            · rw [ep]
              refine fPk_to (fun k hk => ?_)
              rw [show 0 + k = k by omega]
              exact ut k (by omega)
            · obtain ⟨p1, p2, p3⟩ := hp
              refine n_noteTrap p2 (fun h9 => .inl ?_) (fun w _ => ?_)
              · rcases p3 with ⟨g1, -⟩ | ⟨-, g2, -⟩
                · exact absurd g1 h9
                · rw [g2, u1 68 (by decide), b68]
                  rfl
              · obtain ⟨q1, q2, q3⟩ := n_86 (w := w) p2
                have vv3 : ∀ j, j ∉ rnV → j ≠ 53 → j ≠ 88 → v3 j = vB j := fun j a1 a2 a3 => by rw [p1.2 j a1 a2 a3, u1 j (fun h9 => a1 ((by decide : ∀ j, j ∈ [14, 15, 16, 17, 18, 76] → j ∈ rnV) j h9))]
                have e433 : vN v3 43 = vN v 43 := by
                  unfold vN
                  rw [vv3 43 (by decide) (by decide) (by decide), vb 43 (by decide)]
                refine ⟨_, n_loop hQ (lf * 2400001 + 2400001) h3 _ v3 lf (by rw [vv3 95 (by decide) (by decide) (by decide), b95]; exact hlf) q1 ((s1.1.tr p1.1).tr q2) ⟨by rw [vv3 62 (by decide) (by decide) (by decide), vb 62 (by decide)]; exact h62, by rw [vv3 63 (by decide) (by decide) (by decide), b63]; decide, f, by rw [vv3 64 (by decide) (by decide) (by decide), vb 64 (by decide)]; exact w1, ?_⟩ (fun h9 => q3 _ ?_)⟩
                · unfold fnO
                  rw [e433]
                  exact w2
                · rcases p3 with ⟨-, g2⟩ | ⟨g1, -⟩
                  · refine g2.imp id (fun ⟨cs', top', opens', d1, d2, d3, d4, d5, d6⟩ => ⟨cs', top', opens', d1, d2, d3, d4, d5, ?_⟩)
                    have z1 := mu_le (cs := cs')
                    have z2 := d5.lc
                    omega
                  · exact absurd h9 g1
          · exfalso
            apply hle
            rw [z_le, hx2, u1 93 (by decide), vb 93 (by decide), n93]
            omega
        | succ n ih =>
          intro j h1 F1 v1 x2 hj hx2 s1 f1 u1 u17 u76 ut
          have hB1 : mB own mm A h1 := hB.f s1.1
          obtain ⟨g67', k67', n67', m67'⟩ := hB1.kx (k := 67) (kd := 103) (n := 1000) (by decide) (by decide)
          have hU1 := hUB.sF s1 u17 (by rw [u1 94 (by decide)]; exact hUB.W1.2.1.2.2)
          have fk : ∀ k, (∃ e ∈ aL, e.1 = k) → k ≠ 75 → F1 (A k) = F (A k) := fun k g1 g2 => f1 _ (hB.ne g1 (by decide) g2)
          obtain ⟨em, et, ep, er⟩ := fMo.st (DM := DM) (φ := fun k => F (A k)) (φ' := fun k => F1 (A k)) (fk 31 (by decide) (by decide)) (fk 44 (by decide) (by decide)) (fk 45 (by decide) (by decide))
          have e43 : vN v1 43 = vN v 43 := by
            unfold vN
            rw [u1 43 (by decide), vb 43 (by decide)]
          have hfo : fnO v1 f := by
            unfold fnO
            rw [e43]
            exact w2
          have o74 : 60 ≤ own (A 74) := by rw [hB.o (by decide)]; omega
          unfold w_M_run_L79
          rw [mH_i]
          refine ⟨hB1.2.1, fun hle => ?_, fun _ => ⟨A 67, g67', k67', z_vin hx2 n67' (by omega), ?_⟩⟩
          · rw [z_le, hx2, u1 93 (by decide), vb 93 (by decide), n93] at hle
            omega
          · refine n_parameterOf hU1 (by rw [u1 64 (by decide), vb 64 (by decide)]; exact w1) hfo hx2 (by rw [ep]; omega) (fun v3 r11 g3 w3' e11 t1 t2 _ => ?_)
            rw [fPk.st (φ := fun k => F (A k)) (φ' := fun k => F1 (A k)) (fk 31 (by decide) (by decide)) (fk 44 (by decide) (by decide)) (fk 45 (by decide) (by decide))] at e11
            have u76' : (v3 76).toInt = j := by rw [g3 76 (by decide) (by decide) (by decide) (by decide) (by decide)]; exact u76
            refine n_add hB1 u76' (by omega) (by omega) (fun z w9 ew _ => ?_)
            have s2 := (((s1.tr g3.sF).tr (sF.a1 (w := va_up (F1 (A 75)) j w9) hB1 (k := 75) (by decide))).tr (sF.L (j := j) (x := z) (a := A 74) o74)).tr (sF.v1 (k := 76) (x := v3 76 + 1) (by decide))
            refine ih (j + 1) _ _ _ (x2 + 1) (by omega) (z_inc hx2 (by omega)) s2 (fun a ha => by rw [xh_up, if_neg ha]; exact f1 a ha) (fun j' hj' => ?_) (by rw [xh_up, if_neg (by decide)]; exact w3') (by rw [xh_up, if_pos rfl]; exact z_inc u76' (by omega)) (fun i hi => ?_)
            · have q : ∀ i, i ∈ [14, 15, 16, 17, 18, 76] → j' ≠ i := fun i hi e => hj' (e ▸ hi)
              rw [xh_up, if_neg (q 76 (by decide)), g3 j' (q 14 (by decide)) (q 15 (by decide)) (q 16 (by decide)) (q 17 (by decide)) (q 18 (by decide)), u1 j' hj']
            · rw [xh_up, if_pos rfl]
              rcases Nat.lt_or_ge i j with h8' | h8'
              · rw [xh_up, if_neg (by omega)]
                exact ut i h8'
              · have : i = j := by omega
                subst this
                rw [xh_up, if_pos rfl, ew]
                exact e11
      exact ⟨_, loop (fPl (fun k => F (A k)) DM f).length 0 h F vB 0 rfl rfl sF.rf (fun _ _ => rfl) (fun _ _ => rfl) hUB.z (by rw [b76]; rfl) (fun i hi => absurd hi (Nat.not_lt_zero i))⟩
  unfold w_M_run
  refine ⟨fun _ => ?_, fun hx0 => ⟨fun _ => ⟨hB.2.1, ?_⟩, fun _ => ?_⟩⟩
  · unfold w_M_run_L12
    exact bad 1 (by decide)
  · rw [mH_i]
    rw [z_lt] at hx0
    simp only [Int32.reduceToInt] at hx0
    exact ⟨fun h62 => good (by omega) h62, fun _ => bad 2 (by decide)⟩
  · unfold w_M_run_L12
    exact bad 1 (by decide)
end MSW
