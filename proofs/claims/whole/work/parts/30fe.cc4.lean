-- equality: the class's checker, exact: exports, the start
section CC5
variable {S : Nat → Prop} {h0 h : xb_H} {md rd op ck cd nt im N rc rs b : Nat} {ca : Nat → Nat} {rw it n : Nat → Nat} {vs : Nat → Nat → Int64} {cb cA ν iv : Nat → Int32} {bc bs : Nat} {Qt : String → xb_H → Nat → Nat → Prop} {C : Option (Nat × Nat)} {T : Sm} {s sa : Int32} {D : zM}
theorem cy_checkExports {Qr : xb_H → Nat → Nat → Prop} {b0 a : Nat} (hT : ckT S h0 md rd op ck ca rc rs b C Qt) (hG : ck_G S h0 h md rd op ck cd nt im N ca rw it n vs cb ν iv rc rs bc bs) (hI : md_K N cb n vs ν iv b0 a) (ha : a ≤ N) (hE : eR cA ν b N T n vs iv s sa) (hD : D = zk b N cA T) (hCx : cx_ cA cb b N) (hC : hit C (sqF (ckEx D) (qt D 7)))
    (hQ : (∀ i, i < n 6 / 5 → ((vs 6 (5 * i + 1)).toInt = 0 → (vs 6 (5 * i + 2)).toInt < (n 2 / 2 : Nat)) ∧ ((vs 6 (5 * i + 1)).toInt = 1 → (vs 6 (5 * i + 2)).toInt < (n 3 / 3 : Nat)) ∧ ((vs 6 (5 * i + 1)).toInt = 2 → (vs 6 (5 * i + 2)).toInt < (n 4 / 3 : Nat)) ∧ ((vs 6 (5 * i + 1)).toInt = 3 → (vs 6 (5 * i + 2)).toInt < (n 5 / 4 : Nat))) → sqF (ckEx D) (qt D 7) = none → Qr h bc bs) : w_Checker_checkExports ck h bc bs Qr Qt := by
  have hn6 := hI.nk (k := 6) (by omega)
  have hN := hG.M.2.2.2.2
  obtain ⟨⟨M1, M2, M3, M4, M5⟩, -⟩ := hG.M
  obtain ⟨en, c0, c1, c2, c3, c4, c5, c6, -⟩ := hI
  have hqc : qc D = cA := by rw [hD]; rfl
  have hqa : ∀ x, qc D x = cA x := fun x => by rw [hqc]
  have en6 : n 6 = 5 * qt D 7 := by rw [hD]; exact hE.2.2.2.2.2.1.1
  have hl6 : ∀ i, i < qt D 7 → (vs 6 (5 * i)).toInt + b = qp D 7 i ∧ (vs 6 (5 * i + 1)).toInt = (ub (qc D) (xko D i)).toInt ∧ (vs 6 (5 * i + 2)).toInt = xnu D i ∧ (vs 6 (5 * i + 3)).toInt + b = cE (qc D) (qp D 7 i) ∧ (vs 6 (5 * i + 4)).toInt = cV (qc D) (qp D 7 i) := by rw [hD]; exact hE.2.2.2.2.2.1.2
  have m2 := zk_n2 hE hD
  have m3 := zk_n3 hE hD
  have m4 := zk_n4 hE hD
  have m5 := zk_n5 hE hD
  have sam : ∀ i j, i < qt D 7 → j < qt D 7 → (smE n vs cb cb (vs 6 (5 * i + 3)).toInt.toNat (cV (qc D) (qp D 7 i)) j ↔ samN (qc D) (qp D 7 j) (qp D 7 i)) := fun i j hi hj => by
    obtain ⟨a0, a1, a2, a3, a4⟩ := hl6 i hi
    obtain ⟨b0', b1, b2, b3, b4⟩ := hl6 j hj
    obtain ⟨pi, hi5⟩ := c6.at (by omega) (i := i) (by omega)
    obtain ⟨pj, hj5⟩ := c6.at (by omega) (i := j) (by omega)
    dsimp only [mp6] at pi pj
    have xx : ∀ t, t < cV (qc D) (qp D 7 j) → cb ((vs 6 (5 * j + 3)).toInt.toNat + t) = qc D (cE (qc D) (qp D 7 j) + t) := fun t ht => by
      rw [hCx.1 _ (by omega), hqa]
      congr 1
      omega
    have yy : ∀ t, t < cV (qc D) (qp D 7 i) → cb ((vs 6 (5 * i + 3)).toInt.toNat + t) = qc D (cE (qc D) (qp D 7 i) + t) := fun t ht => by
      rw [hCx.1 _ (by omega), hqa]
      congr 1
      omega
    constructor
    · rintro ⟨e1, e2⟩
      have e3 : cV (qc D) (qp D 7 j) = cV (qc D) (qp D 7 i) := by omega
      exact ⟨e3, fun t ht => by rw [← xx t ht, ← yy t (by omega)]; exact e2 t (by omega)⟩
    · rintro ⟨e1, e2⟩
      exact ⟨by omega, fun t ht => by rw [xx t (by omega), yy t ht]; exact e2 t (by omega)⟩
  have key : ∀ (m : Nat) (x : Int32) (i : Nat), x.toInt = i → n 6 / 5 - i ≤ m → (∀ k, k < n 6 / 5 → k < i → ((vs 6 (5 * k + 1)).toInt = 0 → (vs 6 (5 * k + 2)).toInt < (n 2 / 2 : Nat)) ∧ ((vs 6 (5 * k + 1)).toInt = 1 → (vs 6 (5 * k + 2)).toInt < (n 3 / 3 : Nat)) ∧ ((vs 6 (5 * k + 1)).toInt = 2 → (vs 6 (5 * k + 2)).toInt < (n 4 / 3 : Nat)) ∧ ((vs 6 (5 * k + 1)).toInt = 3 → (vs 6 (5 * k + 2)).toInt < (n 5 / 4 : Nat))) → sqF (ckEx D) i = none → i ≤ qt D 7 → w_Checker_checkExports_L10 Qr Qt (m + 1) ck (rw 6) x h bc bs := by
    intro m
    induction m with
    | zero =>
      intro x i g1 g2 g3 g4 g5
      unfold w_Checker_checkExports_L10
      refine ⟨hG.M.krow (by omega), md_lines (c := 5) hG.M (by omega) rfl (by omega) (fun r e _ => ⟨fun _ => hQ (fun k k1 => g3 k k1 (by omega)) (by rw [show qt D 7 = i by omega]; exact g4), fun e2 => ?_⟩)⟩
      rw [z_le, e, g1] at e2
      omega
    | succ m ih =>
      intro x i g1 g2 g3 g4 g5
      unfold w_Checker_checkExports_L10
      refine ⟨hG.M.krow (by omega), md_lines (c := 5) hG.M (by omega) rfl (by omega) (fun r e _ => ⟨fun e2 => hQ (fun k k1 => g3 k k1 (by rw [z_le, e, g1] at e2; omega)) (by rw [z_le, e, g1] at e2; rw [show qt D 7 = i by omega]; exact g4), fun e2 => ?_⟩)⟩
      rw [z_le, e, g1] at e2
      have ex : (x + 1).toInt = (i + 1 : Nat) := by rw [z_add, g1]; simp only [Int32.reduceToInt]; omega
      have b2 : n 6 / 5 - (i + 1) ≤ m := by omega
      obtain ⟨p, hi⟩ := c6.at (by omega) (i := i) (by omega)
      dsimp only [mp6] at p
      obtain ⟨p0, p1, p2, p3, p4, p5, p6, p7, p8⟩ := p
      obtain ⟨κ, hκ⟩ : ∃ κ : Nat, (vs 6 (5 * i + 1)).toInt = κ := ⟨(vs 6 (5 * i + 1)).toInt.toNat, by omega⟩
      have hi7 : i < qt D 7 := by omega
      obtain ⟨l0, l1, l2, l3, l4⟩ := hl6 i hi7
      have hκn : (ub (qc D) (xko D i)).toInt.toNat = κ := by omega
      have hit' := hC.sq hi7 g4
      simp only [Nat.add_zero] at p0 p1
      refine md_at (c := 5) hG.M (i := i) (j := 0) (by omega) rfl g1 rfl (by omega) hi (fun r6 e6 _ => md_longAt (c := 5) hG.M (i := i) (j := 2) (by omega) rfl g1 rfl (by omega) hi (fun _ => md_at (c := 5) hG.M (i := i) (j := 1) (by omega) rfl g1 rfl (by omega) hi (fun r10 e10 _ => ⟨hG.kck, ck_countOf (κ := κ) hG (by rw [e10, hκ]; omega) (by omega) (fun r13 d0 d1 d2 d3 _ => sp_isThere (fun r15 e15 _ => ?_))⟩)))
      have hr13 : r13.toInt = (iM D κ + qt D (3 + κ) : Nat) := by
        have : κ = 0 ∨ κ = 1 ∨ κ = 2 ∨ κ = 3 := by omega
        rcases this with e9 | e9 | e9 | e9 <;> subst e9
        · rw [d0 rfl, m2, Nat.mul_div_cancel_left _ (by decide)]
        · rw [d1 rfl, m3, Nat.mul_div_cancel_left _ (by decide)]
        · rw [d2 rfl, m4, Nat.mul_div_cancel_left _ (by decide)]
        · rw [d3 rfl, m5, Nat.mul_div_cancel_left _ (by decide)]
      have e6' : r6.toInt + b = qp D 7 i := by
        rw [e6]
        simp only [Nat.add_zero]
        omega
      have hnx : ((vs 6 (5 * i + 2)).toInt < r13.toInt) ↔ ¬ iM D (ub (qc D) (xko D i)).toInt.toNat + qt D (3 + (ub (qc D) (xko D i)).toInt.toNat) ≤ xnu D i := by
        rw [hκn, hr13, l2]
        omega
      refine ⟨fun f1 => ?_, fun f1 => ⟨md, hG.rmd, hG.kmd, cy_fail (c := 20) (w := qp D 7 i) hT hG (hit' _ (ckEx_20 (Classical.byContradiction (fun h9 => ?_)))) rfl e6'⟩⟩
      rotate_left
      · rcases e15 with ⟨-, f2⟩ | ⟨f2, -⟩
        · exact f2 ⟨by omega, hnx.mpr h9⟩
        · rw [f1] at f2
          exact absurd f2 (by decide)
      rcases e15 with ⟨f2, -⟩ | ⟨-, f2, f3⟩
      · exact absurd f2 f1
      have hno := hnx.mp f3
      have go : ckEx D i = none → w_Checker_checkExports_L103 (w_Checker_checkExports_L10 Qr Qt (m + 1)) Qr Qt ck (rw 6) x h bc bs := by
        intro hn0
        refine ih (x + 1) (i + 1) ex b2 (fun k k1 k2 => ?_) (sqF_s g4 hn0) (by omega)
        by_cases ek : k = i
        · subst ek
          exact ⟨fun e9 => by rw [d0 (by omega)] at f3; exact f3, fun e9 => by rw [d1 (by omega)] at f3; exact f3, fun e9 => by rw [d2 (by omega)] at f3; exact f3, fun e9 => by rw [d3 (by omega)] at f3; exact f3⟩
        · exact g3 k k1 (by omega)
      unfold w_Checker_checkExports_L57
      refine ⟨hG.M.krow (by omega), md_at (c := 5) hG.M (i := i) (j := 3) (by omega) rfl g1 rfl (by omega) hi (fun r3 e3 _ => md_at (c := 5) hG.M (i := i) (j := 4) (by omega) rfl g1 rfl (by omega) hi (fun r5 e5 _ => ⟨hG.kck, md, hG.rmd, cd, hG.2.2.1.2.1, hG.kmd, y_exportNamedBelow (p := (vs 6 (5 * i + 3)).toInt.toNat) (l := cV (qc D) (qp D 7 i)) hG.M c6 (by omega) (by rw [g1]; omega) M3 (by omega) (by omega) (by rw [M4]; omega) (by rw [M4]; omega) (fun r11 e11 _ => ?_)⟩))⟩
      rw [M5, g1] at e11
      refine ⟨fun f9 => go (ckEx_n hno (fun j hj h9 => ?_)), fun f9 => ⟨md, hG.rmd, hG.kmd, cy_fail (c := 24) (w := qp D 7 i) hT hG (hit' _ ?_) rfl e6'⟩⟩
      · rcases e11 with ⟨-, f8⟩ | ⟨j', f8, f7, -⟩
        · exact f8 j (by omega) ((sam i j hi7 (by omega)).mpr h9)
        · rw [f9] at f8
          simp only [Int32.reduceToInt] at f8
          omega
      · rcases e11 with ⟨f8, -⟩ | ⟨j', f8, f7, f6, -⟩
        · exact absurd f8 f9
        · exact ckEx_24 hno (j := j') (by omega) ((sam i j' hi7 (by omega)).mp f6)
  unfold w_Checker_checkExports
  exact ⟨hG.kck, md, hG.rmd, hG.kmd, rw 6, hG.M.row (by omega), n 6 / 5 + 1, key _ 0 0 rfl (by omega) (fun k k1 k2 => by omega) rfl (by omega)⟩
theorem cy_checkStart {Qr : xb_H → Nat → Nat → Prop} {b0 a : Nat} (hT : ckT S h0 md rd op ck ca rc rs b C Qt) (hG : ck_G S h0 h md rd op ck cd nt im N ca rw it n vs cb ν iv rc rs bc bs) (hI : md_K N cb n vs ν iv b0 a) (ha : a ≤ N) (hE : eR cA ν b N T n vs iv (xb_i h md 15) (xb_i h md 16)) (hD : D = zk b N cA T) (hC : hit C (ckSt D))
    (hf : ∀ i, i < n 2 / 2 → 0 ≤ (vs 2 (2 * i + 1)).toInt ∧ (vs 2 (2 * i + 1)).toInt < (n 0 / 5 : Nat))
    (hQ : ((xb_i h md 16).toInt = -1 ∨ ∃ f : Nat, (xb_i h md 15).toInt = f ∧ f < n 2 / 2 ∧ ∃ t : Nat, (vs 2 (2 * f + 1)).toInt = t ∧ (vs 0 (5 * t + 2)).toInt = 0 ∧ (vs 0 (5 * t + 4)).toInt = 64) → ckSt D = none → Qr h bc bs) : w_Checker_checkStart ck h bc bs Qr Qt := by
  have hn0 := hI.nk (k := 0) (by omega)
  have hn2 := hI.nk (k := 2) (by omega)
  have hN := hG.M.2.2.2.2
  obtain ⟨en, c0, -⟩ := hI
  have m0 := zk_n0 hE hD
  have m2 := zk_n2 hE hD
  have h8a : qt D 8 = 0 → xb_i h md 15 = -1 ∧ xb_i h md 16 = -1 := by rw [hD]; exact hE.2.2.2.2.2.2.2.2.2.1
  have h8b : 0 < qt D 8 → (0 ≤ (xb_i h md 16).toInt ∧ (xb_i h md 16).toInt + b = qp D 8 0) ∧ (xb_i h md 15).toBitVec.toNat = cV (qc D) (qp D 8 0) := by rw [hD]; exact hE.2.2.2.2.2.2.2.2.2.2
  have L89 : xb_i h md 16 ≠ -1 → ckSt D = some (21, qp D 8 0) → w_Checker_checkStart_L89 Qr Qt ck h bc bs := fun h9 h7 => ⟨hG.kck, md, hG.rmd, md, hG.rmd, hG.kmd, hG.kmd, cy_fail (c := 21) (w := qp D 8 0) hT hG (hC _ h7) rfl (h8b (Nat.pos_of_ne_zero (fun h8 => h9 (h8a h8).2))).1.2⟩
  have h80 : xb_i h md 16 ≠ -1 → 0 < qt D 8 := fun h9 => Nat.pos_of_ne_zero (fun h8 => h9 (h8a h8).2)
  unfold w_Checker_checkStart
  refine ⟨hG.kck, md, hG.rmd, hG.kmd, fun e => ⟨md, hG.rmd, hG.kmd, md, hG.rmd, hG.kmd, rw 2, hG.M.row (by omega), hG.M.krow (by omega), md_lines (c := 2) hG.M (by omega) rfl (by omega) (fun r12 e12 _ => sp_isThere (fun r14 e14 _ => ⟨fun f1 => ?_, fun f1 => ⟨md, hG.rmd, md, hG.rmd, hG.kmd, hG.kmd, cy_fail (c := 20) (w := qp D 8 0) hT hG (hC _ (ckSt_20 (h80 e) ?_)) rfl (h8b (h80 e)).1.2⟩⟩))⟩, fun e => hQ (.inl ?_) (ckSt_0 ?_)⟩
  · have hs8 := (h8b (h80 e)).2
    have hnn := z_nat (xb_i h md 15)
    rcases e14 with ⟨f2, -⟩ | ⟨-, f2, f3⟩
    · exact absurd f2 f1
    rw [Z_of32] at f2 f3
    obtain ⟨f, hff⟩ : ∃ f : Nat, (xb_i h md 15).toInt = f := ⟨(xb_i h md 15).toInt.toNat, by omega⟩
    obtain ⟨t1, t2⟩ := hf f (by omega)
    obtain ⟨t, ht⟩ : ∃ t : Nat, (vs 2 (2 * f + 1)).toInt = t := ⟨(vs 2 (2 * f + 1)).toInt.toNat, by omega⟩
    have hcf : cV (qc D) (qp D 8 0) = f := by omega
    have hlt : ¬ iM D 0 + qt D 3 ≤ cV (qc D) (qp D 8 0) := by omega
    obtain ⟨y1, y2⟩ := zk_fn hE hD (i := f) (by omega)
    have hty : fty D (cV (qc D) (qp D 8 0)) = t := by rw [hcf]; omega
    obtain ⟨z0, z1, z2, z3, z4⟩ := zk_ty hE hD (i := t) (by omega)
    unfold w_Checker_checkStart_L52
    refine ⟨hG.kck, md, hG.rmd, md, hG.rmd, hG.kmd, hG.kmd, md_typeOf (i := f) hG.M hff (by omega) t1 (by omega) (fun r7 e7 _ => ⟨md, hG.rmd, hG.kmd, md_parameters (i := t) hG.M c0 (by omega) (by omega) (fun r11 e11 e11a e11b _ => ⟨fun g1 => L89 e (ckSt_21 (h80 e) hlt (fun h9 => by rw [z_lt] at g1; simp only [Int32.reduceToInt] at g1; rw [hty] at h9; omega)), fun g1 => ⟨md, hG.rmd, hG.kmd, md_hasResult (i := t) hG.M c0 (by omega) (by omega) (fun r16 e16 _ => ⟨fun g2 => ?_, fun g2 => L89 e (ckSt_21 (h80 e) hlt (fun h9 => ?_))⟩)⟩⟩)⟩)⟩
    rotate_left
    · rw [hty] at h9
      rcases e16 with ⟨g3, -⟩ | ⟨g3, g4⟩
      · exact g2 g3
      · omega
    rw [z_lt] at g1
    simp only [Int32.reduceToInt] at g1
    rcases e16 with ⟨-, g3⟩ | ⟨g3, -⟩
    · exact hQ (.inr ⟨f, hff, by omega, t, ht, by omega, g3⟩) (ckSt_n (h80 e) hlt (by rw [hty]; omega))
    · rw [g2] at g3
      exact absurd g3 (by decide)
  · have hs8 := (h8b (h80 e)).2
    have hnn := z_nat (xb_i h md 15)
    have hrg := z_rg (xb_i h md 15)
    rcases e14 with ⟨-, f2⟩ | ⟨f2, -⟩
    · rw [Z_of32] at f2
      omega
    · rw [f1] at f2
      exact absurd f2 (by decide)
  · rw [e]
    rfl
  · rcases Nat.eq_zero_or_pos (qt D 8) with h9 | h9
    · exact h9
    · have := (h8b h9).1
      rw [e] at this
      simp only [Int32.reduceToInt] at this
      omega
end CC5
