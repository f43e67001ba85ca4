-- equality: the class's checker, exact: own things
section CC4
variable {S : Nat → Prop} {h0 h : xb_H} {md rd op ck cd nt im N rc rs b : Nat} {ca : Nat → Nat} {rw it n : Nat → Nat} {vs : Nat → Nat → Int64} {cb cA ν iv : Nat → Int32} {bc bs : Nat} {Qt : String → xb_H → Nat → Nat → Prop} {C : Option (Nat × Nat)} {T : Sm} {s sa : Int32} {D : zM}
theorem or_nn {f g : Option (Nat × Nat)} (h1 : f = none) (h2 : g = none) : f.or g = none := by
  rw [h1]
  exact h2
theorem sqq {fn : Nat → Option (Nat × Nat)} {k m : Nat} (h : m ≤ k) (h1 : sqF fn k = none) : sqF fn m = none := by
  cases hc : sqF fn m with
  | none => rfl
  | some Fl =>
    rw [sqF_mo h hc] at h1
    cases h1
theorem cy_checkOwn {Qr : xb_H → Nat → Nat → Prop} {b0 a : Nat} (hT : ckT S h0 md rd op ck ca rc rs b C Qt) (hG : ck_G S h0 h md rd op ck cd nt im N ca rw it n vs cb ν iv rc rs bc bs) (hI : md_K N cb n vs ν iv b0 a) (ha : a ≤ N) (hb : b0 ≤ N) (hq : md_Q n iv) (hby : ∀ j, -128 ≤ (cb j).toInt ∧ (cb j).toInt ≤ 127) (hE : eR cA ν b N T n vs iv s sa) (hD : D = zk b N cA T) (hCx : cx_ cA cb b N) (hC : hit C ((((sqF (ckFn D) (qt D 3)).or (sqF (ckTa D) (qt D 4))).or (sqF (ckMe D) (qt D 5))).or (sqF (ckVa D) (qt D 6))))
    (hQ : (∀ i, i < n 2 / 2 → (iv 0).toInt ≤ i → 0 ≤ (vs 2 (2 * i + 1)).toInt ∧ (vs 2 (2 * i + 1)).toInt < (n 0 / 5 : Nat)) → (∀ i, i < n 3 / 3 → (iv 1).toInt ≤ i → i = 0) → (∀ i, i < n 4 / 3 → (iv 2).toInt ≤ i → i = 0 ∧ (vs 4 1).toInt ≤ 65536 ∧ (vs 4 2).toInt ≤ 65536 ∧ ((vs 4 2).toInt = -1 ∨ (vs 4 1).toInt ≤ (vs 4 2).toInt)) → (∀ i, i < n 5 / 4 → (iv 3).toInt ≤ i → ∃ p : Nat, (vs 5 (4 * i + 3)).toInt = p ∧ ck_ex N cb ν (vs 5) (iv 3).toInt p (vs 5 (4 * i + 1)).toInt) → ((((sqF (ckFn D) (qt D 3)).or (sqF (ckTa D) (qt D 4))).or (sqF (ckMe D) (qt D 5))).or (sqF (ckVa D) (qt D 6))) = none → Qr h bc bs) : w_Checker_checkOwn ck h bc bs Qr Qt := by
  have hn2 := hI.nk (k := 2) (by omega)
  have hn3 := hI.nk (k := 3) (by omega)
  have hn4 := hI.nk (k := 4) (by omega)
  have hn5 := hI.nk (k := 5) (by omega)
  have hN := hG.M.2.2.2.2
  have hcn := hI.cnt
  have hvars := hI.vars hq
  obtain ⟨q0, q1, q2, q3⟩ := id hq
  obtain ⟨⟨M1, M2, M3, M4, M5⟩, ⟨M6, M7, M8, M9⟩, -, ⟨M10, M11, M12, M13⟩, MN⟩ := hG.M
  have i0 := hcn 0 (by omega)
  have i1 := hcn 1 (by omega)
  have i2 := hcn 2 (by omega)
  have i3 := hcn 3 (by omega)
  obtain ⟨en, c0, c1, c2, c3, c4, c5, -⟩ := hI
  have dm : xb_k h md = 3 := hG.kmd
  have hqc : qc D = cA := by rw [hD]; rfl
  have v0 := zk_iv hE hD (κ := 0) (by decide)
  have v1 := zk_iv hE hD (κ := 1) (by decide)
  have v2 := zk_iv hE hD (κ := 2) (by decide)
  have v3 := zk_iv hE hD (κ := 3) (by decide)
  have m2 := zk_n2 hE hD
  have m3 := zk_n3 hE hD
  have m4 := zk_n4 hE hD
  have m5 := zk_n5 hE hD
  -- variables
  have K135 : ∀ (m : Nat) (x : Int32) (i : Nat), x.toInt = i → (iv 3).toInt ≤ i → n 5 / 4 - i ≤ m → ((∀ k, k < n 5 / 4 → (iv 3).toInt ≤ k → k < i → ∃ p : Nat, (vs 5 (4 * k + 3)).toInt = p ∧ ck_ex N cb ν (vs 5) (iv 3).toInt p (vs 5 (4 * k + 1)).toInt)) → ((∀ k, k < n 5 / 4 → (iv 3).toInt ≤ k → ∃ p : Nat, (vs 5 (4 * k + 3)).toInt = p ∧ ck_ex N cb ν (vs 5) (iv 3).toInt p (vs 5 (4 * k + 1)).toInt) → ((((sqF (ckFn D) (qt D 3)).or (sqF (ckTa D) (qt D 4))).or (sqF (ckMe D) (qt D 5))).or (sqF (ckVa D) (qt D 6))) = none → Qr h bc bs) → (((sqF (ckFn D) (qt D 3)).or (sqF (ckTa D) (qt D 4))).or (sqF (ckMe D) (qt D 5))) = none → sqF (ckVa D) (i - iM D 3) = none → w_Checker_checkOwn_L135 Qr Qt (m + 1) ck x h bc bs := by
    intro m
    induction m with
    | zero =>
      intro x i g1 g2 g3 g4 g5 g6 g7
      unfold w_Checker_checkOwn_L135
      refine ⟨hG.kck, md, hG.rmd, hG.kmd, rw 5, hG.M.row (by omega), hG.M.krow (by omega), md_lines (c := 4) hG.M (by omega) rfl (by omega) (fun r e _ => ⟨fun e2 => g5 (fun k k1 k2 => g4 k k1 k2 (by omega)) (or_nn g6 (by rw [z_le, e, g1] at e2; exact sqq (by omega : qt D 6 ≤ i - iM D 3) g7)), fun e2 => ?_⟩)⟩
      rw [z_le, e, g1] at e2
      omega
    | succ m ih =>
      intro x i g1 g2 g3 g4 g5 g6 g7
      unfold w_Checker_checkOwn_L135
      refine ⟨hG.kck, md, hG.rmd, hG.kmd, rw 5, hG.M.row (by omega), hG.M.krow (by omega), md_lines (c := 4) hG.M (by omega) rfl (by omega) (fun r e _ => ⟨fun e2 => g5 (fun k k1 k2 => g4 k k1 k2 (by rw [z_le, e, g1] at e2; omega)) (or_nn g6 (by rw [z_le, e, g1] at e2; exact sqq (by omega : qt D 6 ≤ i - iM D 3) g7)), fun e2 => ?_⟩)⟩
      rw [z_le, e, g1] at e2
      obtain ⟨p, hi⟩ := c5.at (by omega) (i := i) (by omega)
      dsimp only [mp5] at p
      obtain ⟨p0, p1, p2, p3, p4, p5, p6⟩ := p
      have hmx := p6 g2
      obtain ⟨pp, mm, f1, f2, f3, f4⟩ := id hmx
      have ex : (x + 1).toInt = (i + 1 : Nat) := by rw [z_add, g1]; simp only [Int32.reduceToInt]; omega
      refine ⟨md, hG.rmd, hG.kmd, rw 5, hG.M.row (by omega), hG.M.krow (by omega), md_at (c := 4) hG.M (i := i) (j := 1) (by omega) rfl g1 rfl (by omega) hi (fun r14 e14 _ => ⟨md, hG.rmd, hG.kmd, rw 5, hG.M.row (by omega), hG.M.krow (by omega), md_at (c := 4) hG.M (i := i) (j := 3) (by omega) rfl g1 rfl (by omega) hi (fun r20 e20 _ => ?_)⟩)⟩
      have e20' : r20.toInt = pp := by rw [e20, f1]; omega
      have e14' : r14.toInt = (vs 5 (4 * i + 1)).toInt := by rw [e14]; omega
      rw [f1] at hmx
      have b2 : n 5 / 4 - (i + 1) ≤ m := by omega
      have hj6 : i - iM D 3 < qt D 6 := by omega
      obtain ⟨y0, y1, y2, y3⟩ := (zk_ow hE hD (κ := 3) (k := i - iM D 3) (by decide) hj6).2.2.2 rfl
      have eij : iM D 3 + (i - iM D 3) = i := by omega
      rw [eij] at y1 y3
      have y3' : (vs 5 (4 * i + 3)).toInt + b = (qp D 6 (i - iM D 3) + 2 : Nat) := y3
      have y1' : (vs 5 (4 * i + 1)).toInt = (ub (qc D) (qp D 6 (i - iM D 3))).toInt := by rw [hqc]; exact y1
      have hpp : b + pp = qp D 6 (i - iM D 3) + 2 := by omega
      obtain ⟨EE, hEW⟩ : ∃ E, eW cA ν b N E (b + pp) := by
        rw [hpp]
        have : ∀ k, k < qt D 6 → ∃ E, eW cA ν b N E (qp D 6 k + 2) := by rw [hD]; exact hE.2.2.2.2.1
        exact this _ hj6
      have hie : ckVa D (i - iM D 3) = ckCo D (b + pp) r14.toInt := by
        unfold ckVa
        rw [hpp, e14', y1']
      refine cy_checkExpression hT hG hvars hby e20' hmx hb hE hD hCx hEW (by rw [← hie]; exact (hC.o2 g6).sq hj6 g7) (fun he hn0 _ => ih (x + 1) (i + 1) ex (by omega) b2 (fun k k1 k2 k3 => ?_) g5 g6 (by rw [show i + 1 - iM D 3 = i - iM D 3 + 1 by omega]; exact sqF_s g7 (by rw [hie]; exact hn0)))
      by_cases ek : k = i
      · subst ek
        rw [e14'] at he
        exact ⟨pp, f1, he⟩
      · exact g4 k k1 k2 (by omega)
  -- memories
  have K90 : ∀ (m : Nat) (x : Int32) (i : Nat), x.toInt = i → (iv 2).toInt ≤ i → n 4 / 3 - i ≤ m → (∀ k, k < n 4 / 3 → (iv 2).toInt ≤ k → k < i → k = 0 ∧ (vs 4 1).toInt ≤ 65536 ∧ (vs 4 2).toInt ≤ 65536 ∧ ((vs 4 2).toInt = -1 ∨ (vs 4 1).toInt ≤ (vs 4 2).toInt)) → ((∀ k, k < n 4 / 3 → (iv 2).toInt ≤ k → k = 0 ∧ (vs 4 1).toInt ≤ 65536 ∧ (vs 4 2).toInt ≤ 65536 ∧ ((vs 4 2).toInt = -1 ∨ (vs 4 1).toInt ≤ (vs 4 2).toInt)) → (∀ i, i < n 5 / 4 → (iv 3).toInt ≤ i → ∃ p : Nat, (vs 5 (4 * i + 3)).toInt = p ∧ ck_ex N cb ν (vs 5) (iv 3).toInt p (vs 5 (4 * i + 1)).toInt) → ((((sqF (ckFn D) (qt D 3)).or (sqF (ckTa D) (qt D 4))).or (sqF (ckMe D) (qt D 5))).or (sqF (ckVa D) (qt D 6))) = none → Qr h bc bs) → ((sqF (ckFn D) (qt D 3)).or (sqF (ckTa D) (qt D 4))) = none → sqF (ckMe D) (i - iM D 2) = none → w_Checker_checkOwn_L90 Qr Qt (m + 1) ck x h bc bs := by
    intro m
    induction m with
    | zero =>
      intro x i g1 g2 g3 g4 g5 g6 g7
      unfold w_Checker_checkOwn_L90
      refine ⟨hG.kck, md, hG.rmd, hG.kmd, rw 4, hG.M.row (by omega), hG.M.krow (by omega), md_lines (c := 3) hG.M (by omega) rfl (by omega) (fun r e _ => ⟨fun _ => ⟨md, hG.rmd, dm, im, M10, M11, by rw [M12, z_in]; decide, fun v14 e14 => ⟨n 5 / 4 + 1, ?_⟩⟩, fun e2 => ?_⟩)⟩
      · rw [M13] at e14
        exact K135 _ v14 (iv 3).toInt.toNat (by rw [e14]; omega) (by omega) (by omega) (fun k k1 k2 k3 => by omega) (g5 (fun k k1 k2 => g4 k k1 k2 (by omega))) (or_nn g6 (sqq (by omega : qt D 5 ≤ i - iM D 2) g7)) (by rw [show (iv 3).toInt.toNat - iM D 3 = 0 by omega]; rfl)
      · rw [z_le, e, g1] at e2
        omega
    | succ m ih =>
      intro x i g1 g2 g3 g4 g5 g6 g7
      unfold w_Checker_checkOwn_L90
      refine ⟨hG.kck, md, hG.rmd, hG.kmd, rw 4, hG.M.row (by omega), hG.M.krow (by omega), md_lines (c := 3) hG.M (by omega) rfl (by omega) (fun r e _ => ⟨fun e2 => ⟨md, hG.rmd, dm, im, M10, M11, by rw [M12, z_in]; decide, fun v14 e14 => ⟨n 5 / 4 + 1, ?_⟩⟩, fun e2 => ⟨md, hG.rmd, dm, rw 4, hG.M.row (by omega), ?_⟩⟩)⟩
      · rw [M13] at e14
        rw [z_le, e, g1] at e2
        exact K135 _ v14 (iv 3).toInt.toNat (by rw [e14]; omega) (by omega) (by omega) (fun k k1 k2 k3 => by omega) (g5 (fun k k1 k2 => g4 k k1 k2 (by omega))) (or_nn g6 (sqq (by omega : qt D 5 ≤ i - iM D 2) g7)) (by rw [show (iv 3).toInt.toNat - iM D 3 = 0 by omega]; rfl)
      · rw [z_le, e, g1] at e2
        have ex : (x + 1).toInt = (i + 1 : Nat) := by rw [z_add, g1]; simp only [Int32.reduceToInt]; omega
        have b2 : n 4 / 3 - (i + 1) ≤ m := by omega
        have hj : i - iM D 2 < qt D 5 := by omega
        have eij : iM D 2 + (i - iM D 2) = i := by omega
        have hll : epL cA b (qp D 5 (i - iM D 2)) (qp D 5 (i - iM D 2)) (fun j => (vs 4 (3 * i + j)).toInt) := by
          have := (zk_ow hE hD (κ := 2) (k := i - iM D 2) (by decide) hj).2.2.1 rfl
          rw [eij] at this
          exact this
        obtain ⟨p9, hi9⟩ := c4.at (by omega) (i := i) (by omega)
        dsimp only [mp3] at p9
        have hpl := hll.1
        simp only [Nat.add_zero] at p9 hpl
        have hie : ckMe D (i - iM D 2) = lmF cA true (qp D 5 (i - iM D 2)) (qp D 5 (i - iM D 2)) (decide (0 < i)) := by
          unfold ckMe
          rw [hqc, eij]
        refine cy_checkLimits (i := i) hT hG (by omega) rfl g1 (by omega) hll (by omega) (by omega) hN (.inl ⟨rfl, rfl⟩) (by rw [← hie]; exact (hC.o1.o2 g6).sq hj g7) (fun a1 a2 a3 a4 a5 _ => ih (x + 1) (i + 1) ex (by omega) b2 (fun k k1 k2 k3 => ?_) g5 g6 (by rw [show i + 1 - iM D 2 = i - iM D 2 + 1 by omega]; exact sqF_s g7 (by rw [hie]; exact a5)))
        simp only [Int64.reduceToInt] at a2 a3
        by_cases ek : k = i
        · exact ⟨by omega, a2, a3, a4⟩
        · exact g4 k k1 k2 (by omega)
  -- tables
  have K45 : ∀ (m : Nat) (x : Int32) (i : Nat), x.toInt = i → (iv 1).toInt ≤ i → n 3 / 3 - i ≤ m → (∀ k, k < n 3 / 3 → (iv 1).toInt ≤ k → k < i → k = 0) → ((∀ k, k < n 3 / 3 → (iv 1).toInt ≤ k → k = 0) → (∀ k, k < n 4 / 3 → (iv 2).toInt ≤ k → k = 0 ∧ (vs 4 1).toInt ≤ 65536 ∧ (vs 4 2).toInt ≤ 65536 ∧ ((vs 4 2).toInt = -1 ∨ (vs 4 1).toInt ≤ (vs 4 2).toInt)) → (∀ i, i < n 5 / 4 → (iv 3).toInt ≤ i → ∃ p : Nat, (vs 5 (4 * i + 3)).toInt = p ∧ ck_ex N cb ν (vs 5) (iv 3).toInt p (vs 5 (4 * i + 1)).toInt) → ((((sqF (ckFn D) (qt D 3)).or (sqF (ckTa D) (qt D 4))).or (sqF (ckMe D) (qt D 5))).or (sqF (ckVa D) (qt D 6))) = none → Qr h bc bs) → sqF (ckFn D) (qt D 3) = none → sqF (ckTa D) (i - iM D 1) = none → w_Checker_checkOwn_L45 Qr Qt (m + 1) ck x h bc bs := by
    intro m
    induction m with
    | zero =>
      intro x i g1 g2 g3 g4 g5 g6 g7
      unfold w_Checker_checkOwn_L45
      refine ⟨hG.kck, md, hG.rmd, hG.kmd, rw 3, hG.M.row (by omega), hG.M.krow (by omega), md_lines (c := 3) hG.M (by omega) rfl (by omega) (fun r e _ => ⟨fun _ => ⟨md, hG.rmd, dm, im, M10, M11, by rw [M12, z_in]; decide, fun v14 e14 => ⟨n 4 / 3 + 1, ?_⟩⟩, fun e2 => ?_⟩)⟩
      · rw [M13] at e14
        exact K90 _ v14 (iv 2).toInt.toNat (by rw [e14]; omega) (by omega) (by omega) (fun k k1 k2 k3 => by omega) (g5 (fun k k1 k2 => g4 k k1 k2 (by omega))) (or_nn g6 (sqq (by omega : qt D 4 ≤ i - iM D 1) g7)) (by rw [show (iv 2).toInt.toNat - iM D 2 = 0 by omega]; rfl)
      · rw [z_le, e, g1] at e2
        omega
    | succ m ih =>
      intro x i g1 g2 g3 g4 g5 g6 g7
      unfold w_Checker_checkOwn_L45
      refine ⟨hG.kck, md, hG.rmd, hG.kmd, rw 3, hG.M.row (by omega), hG.M.krow (by omega), md_lines (c := 3) hG.M (by omega) rfl (by omega) (fun r e _ => ⟨fun e2 => ⟨md, hG.rmd, dm, im, M10, M11, by rw [M12, z_in]; decide, fun v14 e14 => ⟨n 4 / 3 + 1, ?_⟩⟩, fun e2 => ⟨md, hG.rmd, dm, rw 3, hG.M.row (by omega), ?_⟩⟩)⟩
      · rw [M13] at e14
        rw [z_le, e, g1] at e2
        exact K90 _ v14 (iv 2).toInt.toNat (by rw [e14]; omega) (by omega) (by omega) (fun k k1 k2 k3 => by omega) (g5 (fun k k1 k2 => g4 k k1 k2 (by omega))) (or_nn g6 (sqq (by omega : qt D 4 ≤ i - iM D 1) g7)) (by rw [show (iv 2).toInt.toNat - iM D 2 = 0 by omega]; rfl)
      · rw [z_le, e, g1] at e2
        have ex : (x + 1).toInt = (i + 1 : Nat) := by rw [z_add, g1]; simp only [Int32.reduceToInt]; omega
        have b2 : n 3 / 3 - (i + 1) ≤ m := by omega
        have hj : i - iM D 1 < qt D 4 := by omega
        have eij : iM D 1 + (i - iM D 1) = i := by omega
        have hll : epL cA b (qp D 4 (i - iM D 1)) (qp D 4 (i - iM D 1) + 1) (fun j => (vs 3 (3 * i + j)).toInt) := by
          have := (zk_ow hE hD (κ := 1) (k := i - iM D 1) (by decide) hj).2.1 rfl
          rw [eij] at this
          exact this
        obtain ⟨p9, hi9⟩ := c3.at (by omega) (i := i) (by omega)
        dsimp only [mp3] at p9
        have hpl := hll.1
        simp only [Nat.add_zero] at p9 hpl
        have hie : ckTa D (i - iM D 1) = lmF cA false (qp D 4 (i - iM D 1) + 1) (qp D 4 (i - iM D 1)) (decide (0 < i)) := by
          unfold ckTa
          rw [hqc, eij]
        refine cy_checkLimits (i := i) hT hG (by omega) rfl g1 (by omega) hll (by omega) (by omega) hN (.inr ⟨rfl, rfl⟩) (by rw [← hie]; exact (hC.o1.o1.o2 g6).sq hj g7) (fun a1 _ _ _ a5 _ => ih (x + 1) (i + 1) ex (by omega) b2 (fun k k1 k2 k3 => ?_) g5 g6 (by rw [show i + 1 - iM D 1 = i - iM D 1 + 1 by omega]; exact sqF_s g7 (by rw [hie]; exact a5)))
        by_cases ek : k = i
        · omega
        · exact g4 k k1 k2 (by omega)
  -- functions
  have K10 : ∀ (m : Nat) (x : Int32) (i : Nat), x.toInt = i → (iv 0).toInt ≤ i → n 2 / 2 - i ≤ m → (∀ k, k < n 2 / 2 → (iv 0).toInt ≤ k → k < i → 0 ≤ (vs 2 (2 * k + 1)).toInt ∧ (vs 2 (2 * k + 1)).toInt < (n 0 / 5 : Nat)) → sqF (ckFn D) (i - iM D 0) = none → w_Checker_checkOwn_L10 Qr Qt (m + 1) ck x h bc bs := by
    intro m
    induction m with
    | zero =>
      intro x i g1 g2 g3 g4 g7
      unfold w_Checker_checkOwn_L10
      refine ⟨hG.kck, md, hG.rmd, hG.kmd, rw 2, hG.M.row (by omega), hG.M.krow (by omega), md_lines (c := 2) hG.M (by omega) rfl (by omega) (fun r e _ => ⟨fun _ => ⟨md, hG.rmd, dm, im, M10, M11, by rw [M12, z_in]; decide, fun v14 e14 => ⟨n 3 / 3 + 1, ?_⟩⟩, fun e2 => ?_⟩)⟩
      · rw [M13] at e14
        exact K45 _ v14 (iv 1).toInt.toNat (by rw [e14]; omega) (by omega) (by omega) (fun k k1 k2 k3 => by omega) (hQ (fun k k1 k2 => g4 k k1 k2 (by omega))) (sqq (by omega : qt D 3 ≤ i - iM D 0) g7) (by rw [show (iv 1).toInt.toNat - iM D 1 = 0 by omega]; rfl)
      · rw [z_le, e, g1] at e2
        omega
    | succ m ih =>
      intro x i g1 g2 g3 g4 g7
      unfold w_Checker_checkOwn_L10
      refine ⟨hG.kck, md, hG.rmd, hG.kmd, rw 2, hG.M.row (by omega), hG.M.krow (by omega), md_lines (c := 2) hG.M (by omega) rfl (by omega) (fun r e _ => ⟨fun e2 => ⟨md, hG.rmd, dm, im, M10, M11, by rw [M12, z_in]; decide, fun v14 e14 => ⟨n 3 / 3 + 1, ?_⟩⟩, fun e2 => ?_⟩)⟩
      · rw [M13] at e14
        rw [z_le, e, g1] at e2
        exact K45 _ v14 (iv 1).toInt.toNat (by rw [e14]; omega) (by omega) (by omega) (fun k k1 k2 k3 => by omega) (hQ (fun k k1 k2 => g4 k k1 k2 (by omega))) (sqq (by omega : qt D 3 ≤ i - iM D 0) g7) (by rw [show (iv 1).toInt.toNat - iM D 1 = 0 by omega]; rfl)
      · rw [z_le, e, g1] at e2
        have ex : (x + 1).toInt = (i + 1 : Nat) := by rw [z_add, g1]; simp only [Int32.reduceToInt]; omega
        have b2 : n 2 / 2 - (i + 1) ≤ m := by omega
        have hj : i - iM D 0 < qt D 3 := by omega
        have eij : iM D 0 + (i - iM D 0) = i := by omega
        obtain ⟨l0, l1⟩ := (zk_ow hE hD (κ := 0) (k := i - iM D 0) (by decide) hj).1 rfl
        rw [eij] at l0 l1
        have l0' : (vs 2 (2 * i)).toInt + b = qp D 3 (i - iM D 0) := l0
        have l1' : (vs 2 (2 * i + 1)).toInt = cV (qc D) (qp D 3 (i - iM D 0)) := by rw [hqc]; exact l1
        obtain ⟨p9, hi9⟩ := c2.at (by omega) (i := i) (by omega)
        dsimp only [mp2] at p9
        simp only [Nat.add_zero] at p9
        have hie : ckFn D (i - iM D 0) = if n 0 / 5 ≤ cV (qc D) (qp D 3 (i - iM D 0)) then some (20, qp D 3 (i - iM D 0)) else none := by
          rw [zk_n0 hE hD, Nat.mul_div_cancel_left _ (by decide : 0 < 5)]
          rfl
        refine cy_checkFunction (i := i) (fo := ckFn D (i - iM D 0)) hT hG g1 (by omega) l0' (by omega) (by omega) hN l1' hie (hC.o1.o1.o1.sq hj g7) (fun a1 a2 a3 _ => ih (x + 1) (i + 1) ex (by omega) b2 (fun k k1 k2 k3 => ?_) (by rw [show i + 1 - iM D 0 = i - iM D 0 + 1 by omega]; exact sqF_s g7 a3))
        by_cases ek : k = i
        · subst ek
          exact ⟨a1, a2⟩
        · exact g4 k k1 k2 (by omega)
  unfold w_Checker_checkOwn
  refine ⟨hG.kck, md, hG.rmd, dm, im, M10, M11, by rw [M12, z_in]; decide, fun v7 e7 => ⟨n 2 / 2 + 1, ?_⟩⟩
  rw [M13] at e7
  exact K10 _ v7 (iv 0).toInt.toNat (by rw [e7]; omega) (by omega) (by omega) (fun k k1 k2 k3 => by omega) (by rw [show (iv 0).toInt.toNat - iM D 0 = 0 by omega]; rfl)
end CC4
