-- equality: the class's checker, exact: expressions, imports, own things
section CC3
variable {S : Nat → Prop} {h0 h : xb_H} {md rd op ck cd nt im N rc rs b : Nat} {ca : Nat → Nat} {rw it n : Nat → Nat} {vs : Nat → Nat → Int64} {cb cA ν iv : Nat → Int32} {bc bs : Nat} {Qt : String → xb_H → Nat → Nat → Prop} {C : Option (Nat × Nat)} {T : Sm} {s sa : Int32} {D : zM}
/-- the first instruction that is noted -/
theorem eW.first {E p : Nat} (hW : eW cA ν b N E (b + p)) (h4 : 4 ≤ wk_sh ((cA (b + p)).toInt % 256)) : ∃ q : Nat, rW cA (wk_sh ((cA (b + p)).toInt % 256)) (b + p + 1) q ∧ nXc cA ν b (wk_sh ((cA (b + p)).toInt % 256)) p q ∧ q < E ∧ E ≤ b + N ∧ b + p + 2 ≤ q := by
  obtain ⟨h1, h2, m, hw⟩ := hW
  cases m with
  | zero => exact hw.elim
  | succ m =>
    obtain ⟨h3, q, h5, h6, h7⟩ := hw
    have hn := h6 h4
    rw [show b + p - b = p by omega] at hn
    have := (rW_b h5).2.1 h4
    rcases h7 with h8 | h8
    · omega
    · exact ⟨q, h5, hn, h8.2.1, h2, by omega⟩
theorem cy_checkExpression {Qr : xb_H → Nat → Nat → Prop} {x1 x2 : Int32} {p e E b0 : Nat} (hT : ckT S h0 md rd op ck ca rc rs b C Qt) (hG : ck_G S h0 h md rd op ck cd nt im N ca rw it n vs cb ν iv rc rs bc bs)
    (hv : ∀ i : Nat, (i : Int) < (iv 3).toInt → 4 * i + 4 ≤ n 5 ∧ 124 ≤ (vs 5 (4 * i + 1)).toInt ∧ (vs 5 (4 * i + 1)).toInt ≤ 127 ∧ ((vs 5 (4 * i + 2)).toInt = 0 ∨ (vs 5 (4 * i + 2)).toInt = 1)) (hby : ∀ j, -128 ≤ (cb j).toInt ∧ (cb j).toInt ≤ 127)
    (hp : x1.toInt = p) (hm : mex cb ν b0 p e) (hb : b0 ≤ N) (hE : eR cA ν b N T n vs iv s sa) (hD : D = zk b N cA T) (hCx : cx_ cA cb b N) (hW : eW cA ν b N E (b + p)) (hC : hit C (ckCo D (b + p) x2.toInt)) (hQ : ck_ex N cb ν (vs 5) (iv 3).toInt p x2.toInt → ckCo D (b + p) x2.toInt = none → Qr h bc bs) : w_Checker_checkExpression ck x1 x2 h bc bs Qr Qt := by
  obtain ⟨p', m, e1, e2, e3, e4⟩ := hm
  have ep : p' = p := by omega
  subst ep
  obtain ⟨⟨M1, M2, M3, M4, M5⟩, ⟨M6, M7, M8, M9⟩, -, ⟨M10, M11, M12, M13⟩, MN⟩ := hG.M
  have c0 : x1.toNatClampNeg = p' := by rw [z_cl, hp]; omega
  have ex1 : (x1 + 1).toInt = p' + 1 := by rw [z_add, hp]; simp only [Int32.reduceToInt]; omega
  have c1 : (x1 + 1).toNatClampNeg = p' + 1 := by rw [z_cl, ex1]; omega
  have hy := hby p'
  have hpN : p' < N := by omega
  have hcp := hCx.1 p' hpN
  have hqc : qc D = cA := by rw [hD]; rfl
  have hub : (ub cA (b + p')).toInt = (cb p').toInt % 256 := by rw [ub_i, ← hcp]
  have heq : ∀ c : Int32, ub (qc D) (b + p') = c ↔ (cb p').toInt % 256 = c.toInt := fun c => by rw [hqc, z_eq, hub]
  -- the end behind the first instruction
  have L154 : 4 ≤ wk_sh ((cb p').toInt % 256) → ckCo D (b + p') x2.toInt = enF (qc D) (qW (qc D) (b + p')) → (p' + 2 < N → ckCo D (b + p') x2.toInt = none → Qr h bc bs) → w_Checker_checkExpression_L154 Qr Qt ck x1 h bc bs := by
    intro h4 hck hq
    obtain ⟨q', r1, r2, r3, r4, r5⟩ := hW.first (by rw [← hcp]; exact h4)
    have hqw : qW (qc D) (b + p') = q' := by rw [hqc]; exact qW_E r1
    rw [hqw, hqc] at hck
    obtain ⟨q, q1, ⟨q2, -⟩, q3⟩ := e4.first h4
    unfold w_Checker_checkExpression_L154 w_Checker_checkExpression_L185
    refine ⟨hG.kck, nt, hG.2.2.1.2.2, M7, by rw [z_in, hp, M8]; omega, fun v5 e5 => ?_⟩
    rw [c0, M9] at e5
    have ev5 : v5.toInt = ((q' - b : Nat) : Int) := by
      have := r2.1
      rw [e5]
      omega
    have hcq : cb (q' - b) = cA q' := by
      have := hCx.1 (q' - b) (by omega)
      rw [show b + (q' - b) = q' by omega] at this
      exact this
    have hcy := hby (q' - b)
    have u11 : cb (q' - b) = 11 ↔ ub cA q' = 11 := by
      rw [z_eq, z_eq, ub_i, ← hcq]
      simp only [Int32.reduceToInt]
      omega
    refine ⟨cd, hG.2.2.1.2.1, M3, by rw [z_in, ev5, M4]; omega, fun e11 => hq (by omega) ?_, fun e11 => ⟨md, hG.rmd, hG.kmd, cy_fail (c := 26) (w := q') hT hG (hC _ ?_) rfl (by omega)⟩⟩
    · rw [z_cl, ev5, Int.toNat_natCast, M5, u11] at e11
      rw [hck]
      exact if_pos e11
    · rw [z_cl, ev5, Int.toNat_natCast, M5, u11] at e11
      rw [hck]
      exact if_neg e11
  have L144 : ¬ (cb p').toInt % 256 = 35 → ¬ (65 ≤ (cb p').toInt % 256 ∧ (cb p').toInt % 256 ≤ 68) → w_Checker_checkExpression_L144 Qr Qt ck x1 h bc bs := fun a1 a2 => ⟨hG.kck, md, hG.rmd, hG.kmd, cy_fail (c := 26) (w := b + p') hT hG (hC _ (ckCo_x (op := ((cb p').toInt % 256).toNat) (by rw [heq]; exact a1) (by rw [hqc, hub]; omega) (by omega))) rfl (by omega)⟩
  unfold w_Checker_checkExpression
  refine ⟨hG.kck, cd, hG.2.2.1.2.1, M3, by rw [z_in, hp, M4]; omega, fun v5 e5 => ?_⟩
  rw [c0, M5] at e5
  subst e5
  refine ⟨fun g0 => ?_, fun g => ?_⟩
  rw [z_eq] at g0
  simp only [Int32.reduceToInt] at g0
  refine ⟨fun g1 => L144 (by omega) (by rw [z_lt] at g1; simp only [Int32.reduceToInt] at g1; omega), fun g1 => ⟨fun g2 => L144 (by omega) (by rw [z_lt] at g1 g2; simp only [Int32.reduceToInt] at g1 g2; omega), fun g2 => ⟨fun g3 => ?_, fun g3 => ⟨md, hG.rmd, hG.kmd, cy_fail (c := 21) (w := b + p') hT hG (hC _ ?_) rfl (by omega)⟩⟩⟩⟩
  · rw [z_lt] at g1 g2
    rw [z_eq, z_sub, z_sub] at g3
    simp only [Int32.reduceToInt] at g1 g2 g3
    have hs := wk_shc (b := (cb p').toInt % 256) (by omega) (by omega)
    exact L154 (by omega) (ckCo_c (op := ((cb p').toInt % 256).toNat) (by rw [heq]; simp only [Int32.reduceToInt]; omega) (by rw [hqc, hub]; omega) (by omega) (by omega)) (fun hN hn => hQ ⟨hN, .inr ⟨by omega, by omega, by omega⟩⟩ hn)
  · rw [z_lt] at g1 g2
    rw [z_eq, z_sub, z_sub] at g3
    simp only [Int32.reduceToInt] at g1 g2 g3
    exact ckCo_cf (op := ((cb p').toInt % 256).toNat) (by rw [heq]; simp only [Int32.reduceToInt]; omega) (by rw [hqc, hub]; omega) (by omega) (by omega)
  · rw [z_eq] at g
    simp only [Int32.reduceToInt] at g
    have hs := wk_sh4 (b := (cb p').toInt % 256) (by omega)
    obtain ⟨q, q1, ⟨q2, -⟩, q3⟩ := e4.first (by omega)
    obtain ⟨q', r1, r2, r3, r4, r5⟩ := hW.first (by rw [← hcp]; omega)
    have h35 : ub (qc D) (b + p') = 35 := by rw [heq]; simp only [Int32.reduceToInt]; omega
    have hnum : (ν (p' + 1)).toBitVec.toNat = cV (qc D) (b + p' + 1) := by rw [hqc]; exact r2.2.1 (.inl (by rw [← hcp]; exact hs))
    have hiv3 := zk_iv hE hD (κ := 3) (by decide)
    have hnn := z_nat (ν (p' + 1))
    have hnr := z_rg (ν (p' + 1))
    refine ⟨nt, hG.2.2.1.2.2, M7, by rw [z_in, ex1, M8]; omega, fun v17 e17 => ⟨md, hG.rmd, hG.kmd, im, M10, M11, by rw [M12, z_in]; decide, ?_⟩⟩
    rw [c1, M9] at e17
    subst e17
    rw [M13]
    refine sp_isThere (fun r24 e24 _ => ⟨fun g2 => ?_, fun g2 => ⟨md, hG.rmd, hG.kmd, cy_fail (c := 20) (w := b + p') hT hG (hC _ (ckCo_20 h35 ?_)) rfl (by omega)⟩⟩)
    rotate_left
    · rcases e24 with ⟨-, f2⟩ | ⟨f1, -⟩
      · rw [Z_of32] at f2
        have hiMb : iM D 3 ≤ 2147483647 := by have := z_rg (iv 3); omega
        omega
      · rw [g2] at f1
        exact absurd f1 (by decide)
    rcases e24 with ⟨f1, -⟩ | ⟨-, f2, f3⟩
    · exact absurd f1 g2
    rw [Z_of32] at f2 f3
    obtain ⟨i, hi⟩ : ∃ i : Nat, (ν (p' + 1)).toInt = i := ⟨(ν (p' + 1)).toInt.toNat, by omega⟩
    obtain ⟨w1, w2, w3, w4⟩ := hv i (by omega)
    have hic : cV (qc D) (b + p' + 1) = i := by omega
    have hlt3 : ¬ iM D 3 ≤ cV (qc D) (b + p' + 1) := by omega
    obtain ⟨y1, y2⟩ := zk_va hE hD (i := i) (by omega)
    unfold w_Checker_checkExpression_L51
    refine ⟨hG.kck, md, hG.rmd, hG.kmd, rw 5, hG.M.row (by omega), hG.M.krow (by omega), md_at (c := 4) hG.M (i := i) (j := 2) (by omega) rfl hi rfl (by omega) w1 (fun r7 e7 _ => ⟨fun g7 => ?_, fun g7 => ⟨md, hG.rmd, hG.kmd, cy_fail (c := 26) (w := b + p') hT hG (hC _ (ckCo_26 h35 hlt3 (by rw [hic, ← y2]; rw [z_eq, e7] at g7; simp only [Int32.reduceToInt] at g7; omega))) rfl (by omega)⟩⟩)⟩
    unfold w_Checker_checkExpression_L78 w_Checker_checkExpression_L105
    refine ⟨hG.kck, md, hG.rmd, hG.kmd, rw 5, hG.M.row (by omega), hG.M.krow (by omega), md_at (c := 4) hG.M (i := i) (j := 1) (by omega) rfl hi rfl (by omega) w1 (fun r8 e8 _ => ⟨fun g8 => ?_, fun g8 => ⟨md, hG.rmd, hG.kmd, cy_fail (c := 21) (w := b + p') hT hG (hC _ (ckCo_21 h35 hlt3 (by rw [hic, ← y2]; rw [z_eq, e7] at g7; simp only [Int32.reduceToInt] at g7; omega) (by rw [hic, ← y1]; rw [z_eq, e8] at g8; omega))) rfl (by omega)⟩⟩)⟩
    rw [z_eq, e8] at g8
    exact L154 (by omega) (ckCo_g h35 hlt3 (by rw [hic, ← y2]; rw [z_eq, e7] at g7; simp only [Int32.reduceToInt] at g7; omega) (by rw [hic, ← y1]; omega)) (fun hN hn => hQ ⟨hN, .inl ⟨g, i, hi, by omega, by omega⟩⟩ hn)
theorem cy_checkImports {Qr : xb_H → Nat → Nat → Prop} {b0 a : Nat} (hT : ckT S h0 md rd op ck ca rc rs b C Qt) (hG : ck_G S h0 h md rd op ck cd nt im N ca rw it n vs cb ν iv rc rs bc bs) (hI : md_K N cb n vs ν iv b0 a) (ha : a ≤ N) (hq : md_Q n iv) (hE : eR cA ν b N T n vs iv s sa) (hD : D = zk b N cA T) (hC : hit C (sqF (ckIm D) (qt D 2)))
    (hQ : (∀ i, i < n 1 / 7 → ((vs 1 (7 * i + 1)).toInt = 0 → ∃ f : Nat, (vs 1 (7 * i + 2)).toInt = f ∧ 0 ≤ (vs 2 (2 * f + 1)).toInt ∧ (vs 2 (2 * f + 1)).toInt < (n 0 / 5 : Nat)) ∧ ((vs 1 (7 * i + 1)).toInt = 1 → (vs 1 (7 * i + 2)).toInt = 0) ∧ ((vs 1 (7 * i + 1)).toInt = 2 → (vs 1 (7 * i + 2)).toInt = 0 ∧ (vs 4 1).toInt ≤ 65536 ∧ (vs 4 2).toInt ≤ 65536 ∧ ((vs 4 2).toInt = -1 ∨ (vs 4 1).toInt ≤ (vs 4 2).toInt))) → sqF (ckIm D) (qt D 2) = none → Qr h bc bs) : w_Checker_checkImports ck h bc bs Qr Qt := by
  have hN := hG.M.2.2.2.2
  have hn1 := hI.nk (k := 1) (by omega)
  have hcn := hI.cnt
  obtain ⟨en, c0, c1, -⟩ := id hI
  have hqc : qc D = cA := by rw [hD]; rfl
  have en1 : n 1 = 7 * qt D 2 := by rw [hD]; exact hE.2.1.1
  have hl1 : ∀ i, i < qt D 2 → ep1 cA b (kcn cA (qp D 2) (ub cA (kpo D i)).toInt.toNat i) (qp D 2 i) (fun j => (vs 1 (7 * i + j)).toInt) := by rw [hD]; exact hE.2.1.2
  have hmono : ∀ (κ : Int) (i m : Nat), i < m → (vs 1 (7 * i + 1)).toInt = κ → mcnt (vs 1) κ i < mcnt (vs 1) κ m := by
    intro κ i m
    induction m with
    | zero => intro h1; omega
    | succ m ih =>
      intro h1 h2
      rw [show mcnt (vs 1) κ (m + 1) = mcnt (vs 1) κ m + (if (vs 1 (7 * m + 1)).toInt = κ then 1 else 0) from rfl]
      by_cases e : i = m
      · subst e
        rw [if_pos h2]
        omega
      · have := ih (by omega) h2
        split <;> omega
  have key : ∀ (m : Nat) (x : Int32) (i : Nat), x.toInt = i → i ≤ n 1 / 7 → n 1 / 7 - i ≤ m → (∀ k, k < i → ((vs 1 (7 * k + 1)).toInt = 0 → ∃ f : Nat, (vs 1 (7 * k + 2)).toInt = f ∧ 0 ≤ (vs 2 (2 * f + 1)).toInt ∧ (vs 2 (2 * f + 1)).toInt < (n 0 / 5 : Nat)) ∧ ((vs 1 (7 * k + 1)).toInt = 1 → (vs 1 (7 * k + 2)).toInt = 0) ∧ ((vs 1 (7 * k + 1)).toInt = 2 → (vs 1 (7 * k + 2)).toInt = 0 ∧ (vs 4 1).toInt ≤ 65536 ∧ (vs 4 2).toInt ≤ 65536 ∧ ((vs 4 2).toInt = -1 ∨ (vs 4 1).toInt ≤ (vs 4 2).toInt))) → sqF (ckIm D) i = none → w_Checker_checkImports_L2 Qr Qt (m + 1) ck x h bc bs := by
    intro m
    induction m with
    | zero =>
      intro x i g1 g2 g3 g4 g5
      unfold w_Checker_checkImports_L2
      refine ⟨hG.kck, md, hG.rmd, hG.kmd, rw 1, hG.M.row (by omega), hG.M.krow (by omega), md_lines (c := 7) hG.M (by omega) rfl (by omega) (fun r e _ => ⟨fun _ => hQ (fun k hk => g4 k (by omega)) (by rw [show qt D 2 = i by omega]; exact g5), fun e2 => ?_⟩)⟩
      rw [z_le, e, g1] at e2
      omega
    | succ m ih =>
      intro x i g1 g2 g3 g4 g5
      unfold w_Checker_checkImports_L2
      refine ⟨hG.kck, md, hG.rmd, hG.kmd, rw 1, hG.M.row (by omega), hG.M.krow (by omega), md_lines (c := 7) hG.M (by omega) rfl (by omega) (fun r e _ => ⟨fun e2 => hQ (fun k hk => g4 k (by rw [z_le, e, g1] at e2; omega)) (by rw [z_le, e, g1] at e2; rw [show qt D 2 = i by omega]; exact g5), fun e2 => ?_⟩)⟩
      rw [z_le, e, g1] at e2
      obtain ⟨p, hi⟩ := c1.at (by omega) (i := i) (by omega)
      dsimp only [mp1] at p
      obtain ⟨p0, p1, p2, p3, p4, -⟩ := p
      have hi2 : i < qt D 2 := by omega
      obtain ⟨w0, w1, w2, w3, w4, w5, w6⟩ := hl1 i hi2
      have wk : (vs 1 (7 * i + 1)).toInt = (ub (qc D) (kpo D i)).toInt := by
        have hkp : kpo D i = qN cA (qN cA (qp D 2 i)) := by unfold kpo; rw [hqc]
        rw [hqc, hkp]
        exact w1
      simp only [Nat.add_zero] at w0 p0 p1
      have hit' := hC.sq hi2 g5
      have ex : (x + 1).toInt = (i + 1 : Nat) := by rw [z_add, g1]; simp only [Int32.reduceToInt]; omega
      obtain ⟨f, hf⟩ : ∃ f : Nat, (vs 1 (7 * i + 2)).toInt = f := ⟨mcnt (vs 1) (vs 1 (7 * i + 1)).toInt i, p4⟩
      obtain ⟨κ, hκ⟩ : ∃ κ : Nat, (vs 1 (7 * i + 1)).toInt = κ := ⟨(vs 1 (7 * i + 1)).toInt.toNat, by omega⟩
      have hfk : (f : Int) < (iv κ).toInt := by
        rw [hcn κ (by omega)]
        have := hmono κ i (n 1 / 7) (by omega) hκ
        rw [hκ] at p4
        omega
      refine ⟨md, hG.rmd, hG.kmd, rw 1, hG.M.row (by omega), hG.M.krow (by omega), md_at (c := 7) hG.M (i := i) (j := 2) (by omega) rfl g1 rfl (by omega) hi (fun r14 e14 _ => ⟨md, hG.rmd, hG.kmd, rw 1, hG.M.row (by omega), hG.M.krow (by omega), md_at (c := 7) hG.M (i := i) (j := 1) (by omega) rfl g1 rfl (by omega) hi (fun r20 e20 _ => ?_)⟩)⟩
      obtain ⟨q0, q1, q2, q3⟩ := hq
      have e14' : r14.toInt = f := by
        have hb : mcnt (vs 1) (vs 1 (7 * i + 1)).toInt i ≤ i := by
          have kk : ∀ (z : Int) (m : Nat), mcnt (vs 1) z m ≤ m := by
            intro z m
            induction m with
            | zero => exact Nat.le_refl 0
            | succ m ih => unfold mcnt; split <;> omega
          exact kk _ i
        rw [e14, hf]
        omega
      have e20' : r20.toInt = κ := by rw [e20, hκ]; omega
      have go : (((vs 1 (7 * i + 1)).toInt = 0 → ∃ f : Nat, (vs 1 (7 * i + 2)).toInt = f ∧ 0 ≤ (vs 2 (2 * f + 1)).toInt ∧ (vs 2 (2 * f + 1)).toInt < (n 0 / 5 : Nat)) ∧ ((vs 1 (7 * i + 1)).toInt = 1 → (vs 1 (7 * i + 2)).toInt = 0) ∧ ((vs 1 (7 * i + 1)).toInt = 2 → (vs 1 (7 * i + 2)).toInt = 0 ∧ (vs 4 1).toInt ≤ 65536 ∧ (vs 4 2).toInt ≤ 65536 ∧ ((vs 4 2).toInt = -1 ∨ (vs 4 1).toInt ≤ (vs 4 2).toInt))) → ckIm D i = none → w_Checker_checkImports_L112 (w_Checker_checkImports_L2 Qr Qt (m + 1)) Qr Qt ck x h bc bs := by
        have b1 : i + 1 ≤ n 1 / 7 := by omega
        have b2 : n 1 / 7 - (i + 1) ≤ m := by omega
        intro hh hn0
        refine ih (x + 1) (i + 1) ex b1 b2 (fun k hk => ?_) (sqF_s g5 hn0)
        by_cases ek : k = i
        · subst ek
          exact hh
        · exact g4 k (by omega)
      refine ⟨fun k0 => ?_, fun k1 => ⟨md, hG.rmd, hG.kmd, rw 3, hG.M.row (by omega), ?_⟩, fun k2 => ⟨md, hG.rmd, hG.kmd, rw 4, hG.M.row (by omega), ?_⟩, fun k0 k1 k2 => ?_⟩
      · rw [z_eq, e20'] at k0
        simp only [Int32.reduceToInt] at k0
        obtain rfl : κ = 0 := by omega
        have hf' : kcn (qc D) (qp D 2) 0 i = f := by
          have : (vs 1 (7 * i + 2)).toInt = (kcn cA (qp D 2) (ub cA (kpo D i)).toInt.toNat i : Nat) := w2
          rw [show (ub cA (kpo D i)).toInt.toNat = 0 by rw [← hqc, ← wk, hκ]; rfl] at this
          rw [hqc]
          omega
        obtain ⟨l0, l1⟩ := (zk_im hE hD (κ := 0) (by decide) hi2 (by rw [← wk]; exact hκ)).1 rfl
        have l0' : (vs 2 (2 * f)).toInt + b = qp D 2 i := by rw [← hf']; exact l0
        have l1' : (vs 2 (2 * f + 1)).toInt = cV (qc D) (kpo D i + 1) := by rw [show kpo D i = qN cA (qN cA (qp D 2 i)) by unfold kpo; rw [hqc], hqc, ← hf']; exact l1
        have hk0 : ub (qc D) (kpo D i) = 0 := by rw [z_eq, ← wk]; exact hκ
        exact cy_checkFunction (i := f) (fo := ckIm D i) hT hG e14' (by omega) l0' (by omega) (by omega) hN l1' (by rw [ckIm_0 hk0, zk_n0 hE hD, Nat.mul_div_cancel_left _ (by decide : 0 < 5)]) hit' (fun a1 a2 a3 _ => go ⟨fun _ => ⟨f, hf, a1, a2⟩, fun e9 => by omega, fun e9 => by omega⟩ a3)
      · rw [z_eq, e20'] at k1
        simp only [Int32.reduceToInt] at k1
        obtain rfl : κ = 1 := by omega
        have hf' : kcn (qc D) (qp D 2) 1 i = f := by
          have : (vs 1 (7 * i + 2)).toInt = (kcn cA (qp D 2) (ub cA (kpo D i)).toInt.toNat i : Nat) := w2
          rw [show (ub cA (kpo D i)).toInt.toNat = 1 by rw [← hqc, ← wk, hκ]; rfl] at this
          rw [hqc]
          omega
        have hll : epL cA b (qp D 2 i) (kpo D i + 2) (fun j => (vs 3 (3 * f + j)).toInt) := by
          have := (zk_im hE hD (κ := 1) (by decide) hi2 (by rw [← wk]; exact hκ)).2.1 rfl
          rw [hf'] at this
          unfold kpo
          rw [hqc]
          exact this
        have hk0 : ub (qc D) (kpo D i) = 1 := by rw [z_eq, ← wk]; exact hκ
        have hie : ckIm D i = lmF cA false (kpo D i + 2) (qp D 2 i) (decide (0 < f)) := by rw [ckIm_1 hk0, hf', hqc]
        exact cy_checkLimits (i := f) hT hG (by omega) rfl e14' (by omega) hll (by omega) (by omega) hN (.inr ⟨rfl, rfl⟩) (by rw [← hie]; exact hit') (fun a1 _ _ _ a5 _ => go ⟨fun e9 => by omega, fun _ => by omega, fun e9 => by omega⟩ (by rw [hie]; exact a5))
      · rw [z_eq, e20'] at k2
        simp only [Int32.reduceToInt] at k2
        obtain rfl : κ = 2 := by omega
        have hf' : kcn (qc D) (qp D 2) 2 i = f := by
          have : (vs 1 (7 * i + 2)).toInt = (kcn cA (qp D 2) (ub cA (kpo D i)).toInt.toNat i : Nat) := w2
          rw [show (ub cA (kpo D i)).toInt.toNat = 2 by rw [← hqc, ← wk, hκ]; rfl] at this
          rw [hqc]
          omega
        have hll : epL cA b (qp D 2 i) (kpo D i + 1) (fun j => (vs 4 (3 * f + j)).toInt) := by
          have := (zk_im hE hD (κ := 2) (by decide) hi2 (by rw [← wk]; exact hκ)).2.2.1 rfl
          rw [hf'] at this
          unfold kpo
          rw [hqc]
          exact this
        have hk0 : ub (qc D) (kpo D i) = 2 := by rw [z_eq, ← wk]; exact hκ
        have hie : ckIm D i = lmF cA true (kpo D i + 1) (qp D 2 i) (decide (0 < f)) := by rw [ckIm_2 hk0, hf', hqc]
        refine cy_checkLimits (i := f) hT hG (by omega) rfl e14' (by omega) hll (by omega) (by omega) hN (.inl ⟨rfl, rfl⟩) (by rw [← hie]; exact hit') (fun a1 a2 a3 a4 a5 _ => go ⟨fun e9 => by omega, fun e9 => by omega, fun _ => ⟨by omega, ?_, ?_, a4⟩⟩ (by rw [hie]; exact a5))
        · simp only [Int64.reduceToInt] at a2
          exact a2
        · simp only [Int64.reduceToInt] at a3
          exact a3
      · rw [z_eq, e20'] at k0 k1 k2
        simp only [Int32.reduceToInt] at k0 k1 k2
        exact go ⟨fun e9 => by omega, fun e9 => by omega, fun e9 => by omega⟩ (ckIm_n (by rw [z_eq, ← wk, hκ]; simp only [Int32.reduceToInt]; omega) (by rw [z_eq, ← wk, hκ]; simp only [Int32.reduceToInt]; omega) (by rw [z_eq, ← wk, hκ]; simp only [Int32.reduceToInt]; omega))
  unfold w_Checker_checkImports
  exact ⟨n 1 / 7 + 1, key _ 0 0 rfl (by omega) (by omega) (fun k hk => by omega) rfl⟩
end CC3
