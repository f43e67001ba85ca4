-- the checker: own things, exports, the start, elements, data
section CK3
variable {S : Nat → Prop} {h0 h : xb_H} {md rd op ck cd nt im N rc rs : Nat} {ca : Nat → Nat} {rw it n : Nat → Nat} {vs : Nat → Nat → Int64} {cb ν iv : Nat → Int32} {bc bs : Nat} {Qt : String → xb_H → Nat → Nat → Prop}
theorem ck_checkOwn {Qr : xb_H → Nat → Nat → Prop} {b a : Nat} (hT : ck_T S h0 md rd op ck ca rc rs Qt) (hG : ck_G S h0 h md rd op ck cd nt im N ca rw it n vs cb ν iv rc rs bc bs) (hI : md_K N cb n vs ν iv b a) (ha : a ≤ N) (hb : b ≤ N) (hq : md_Q n iv) (hby : ∀ j, -128 ≤ (cb j).toInt ∧ (cb j).toInt ≤ 127)
    (hQ : (∀ i, i < n 2 / 2 → (iv 0).toInt ≤ i → 0 ≤ (vs 2 (2 * i + 1)).toInt ∧ (vs 2 (2 * i + 1)).toInt < (n 0 / 5 : Nat)) → (∀ i, i < n 3 / 3 → (iv 1).toInt ≤ i → i = 0) → (∀ i, i < n 4 / 3 → (iv 2).toInt ≤ i → i = 0 ∧ (vs 4 1).toInt ≤ 65536 ∧ (vs 4 2).toInt ≤ 65536 ∧ ((vs 4 2).toInt = -1 ∨ (vs 4 1).toInt ≤ (vs 4 2).toInt)) → (∀ i, i < n 5 / 4 → (iv 3).toInt ≤ i → ∃ p : Nat, (vs 5 (4 * i + 3)).toInt = p ∧ ck_ex N cb ν (vs 5) (iv 3).toInt p (vs 5 (4 * i + 1)).toInt) → Qr h bc bs) : w_Checker_checkOwn ck h bc bs Qr Qt := by
  have hn2 := hI.nk (k := 2) (by omega)
  have hn3 := hI.nk (k := 3) (by omega)
  have hn4 := hI.nk (k := 4) (by omega)
  have hn5 := hI.nk (k := 5) (by omega)
  have hN := hG.M.2.2.2.2
  have hcn := hI.cnt
  have hvars := hI.vars hq
  obtain ⟨q0, q1, q2, q3⟩ := id hq
  obtain ⟨⟨M1, M2, M3, M4, M5⟩, ⟨M6, M7, M8, M9⟩, -, ⟨M10, M11, M12, M13⟩, MN⟩ := hG.M
  have i0 := hcn 0 (by omega)
  have i1 := hcn 1 (by omega)
  have i2 := hcn 2 (by omega)
  have i3 := hcn 3 (by omega)
  obtain ⟨en, c0, c1, c2, c3, c4, c5, -⟩ := hI
  have dm : xb_k h md = 3 := hG.kmd
  -- variables
  have K135 : ∀ (m : Nat) (x : Int32) (i : Nat), x.toInt = i → (iv 3).toInt ≤ i → n 5 / 4 - i ≤ m → ((∀ k, k < n 5 / 4 → (iv 3).toInt ≤ k → k < i → ∃ p : Nat, (vs 5 (4 * k + 3)).toInt = p ∧ ck_ex N cb ν (vs 5) (iv 3).toInt p (vs 5 (4 * k + 1)).toInt)) → ((∀ k, k < n 5 / 4 → (iv 3).toInt ≤ k → ∃ p : Nat, (vs 5 (4 * k + 3)).toInt = p ∧ ck_ex N cb ν (vs 5) (iv 3).toInt p (vs 5 (4 * k + 1)).toInt) → Qr h bc bs) → w_Checker_checkOwn_L135 Qr Qt (m + 1) ck x h bc bs := by
    intro m
    induction m with
    | zero =>
      intro x i g1 g2 g3 g4 g5
      unfold w_Checker_checkOwn_L135
      refine ⟨hG.kck, md, hG.rmd, hG.kmd, rw 5, hG.M.row (by omega), hG.M.krow (by omega), md_lines (c := 4) hG.M (by omega) rfl (by omega) (fun r e _ => ⟨fun _ => g5 (fun k k1 k2 => g4 k k1 k2 (by omega)), fun e2 => ?_⟩)⟩
      rw [z_le, e, g1] at e2
      omega
    | succ m ih =>
      intro x i g1 g2 g3 g4 g5
      unfold w_Checker_checkOwn_L135
      refine ⟨hG.kck, md, hG.rmd, hG.kmd, rw 5, hG.M.row (by omega), hG.M.krow (by omega), md_lines (c := 4) hG.M (by omega) rfl (by omega) (fun r e _ => ⟨fun e2 => g5 (fun k k1 k2 => g4 k k1 k2 (by rw [z_le, e, g1] at e2; omega)), fun e2 => ?_⟩)⟩
      rw [z_le, e, g1] at e2
      obtain ⟨p, hi⟩ := c5.at (by omega) (i := i) (by omega)
      dsimp only [mp5] at p
      obtain ⟨p0, p1, p2, p3, p4, p5, p6⟩ := p
      have hmx := p6 g2
      obtain ⟨pp, mm, f1, f2, f3, f4⟩ := id hmx
      have ex : (x + 1).toInt = (i + 1 : Nat) := by rw [z_add, g1]; simp only [Int32.reduceToInt]; omega
      refine ⟨md, hG.rmd, hG.kmd, rw 5, hG.M.row (by omega), hG.M.krow (by omega), md_at (c := 4) hG.M (i := i) (j := 1) (by omega) rfl g1 rfl (by omega) hi (fun r14 e14 _ => ⟨md, hG.rmd, hG.kmd, rw 5, hG.M.row (by omega), hG.M.krow (by omega), md_at (c := 4) hG.M (i := i) (j := 3) (by omega) rfl g1 rfl (by omega) hi (fun r20 e20 _ => ?_)⟩)⟩
      have e20' : r20.toInt = pp := by rw [e20, f1]; omega
      have e14' : r14.toInt = (vs 5 (4 * i + 1)).toInt := by rw [e14]; omega
      rw [f1] at hmx
      have b2 : n 5 / 4 - (i + 1) ≤ m := by omega
      refine ck_checkExpression hT hG hvars hby e20' hmx hb (fun he _ => ih (x + 1) (i + 1) ex (by omega) b2 (fun k k1 k2 k3 => ?_) g5)
      by_cases ek : k = i
      · subst ek
        rw [e14'] at he
        exact ⟨pp, f1, he⟩
      · exact g4 k k1 k2 (by omega)
  -- memories
  have K90 : ∀ (m : Nat) (x : Int32) (i : Nat), x.toInt = i → (iv 2).toInt ≤ i → n 4 / 3 - i ≤ m → (∀ k, k < n 4 / 3 → (iv 2).toInt ≤ k → k < i → k = 0 ∧ (vs 4 1).toInt ≤ 65536 ∧ (vs 4 2).toInt ≤ 65536 ∧ ((vs 4 2).toInt = -1 ∨ (vs 4 1).toInt ≤ (vs 4 2).toInt)) → ((∀ k, k < n 4 / 3 → (iv 2).toInt ≤ k → k = 0 ∧ (vs 4 1).toInt ≤ 65536 ∧ (vs 4 2).toInt ≤ 65536 ∧ ((vs 4 2).toInt = -1 ∨ (vs 4 1).toInt ≤ (vs 4 2).toInt)) → (∀ i, i < n 5 / 4 → (iv 3).toInt ≤ i → ∃ p : Nat, (vs 5 (4 * i + 3)).toInt = p ∧ ck_ex N cb ν (vs 5) (iv 3).toInt p (vs 5 (4 * i + 1)).toInt) → Qr h bc bs) → w_Checker_checkOwn_L90 Qr Qt (m + 1) ck x h bc bs := by
    intro m
    induction m with
    | zero =>
      intro x i g1 g2 g3 g4 g5
      unfold w_Checker_checkOwn_L90
      refine ⟨hG.kck, md, hG.rmd, hG.kmd, rw 4, hG.M.row (by omega), hG.M.krow (by omega), md_lines (c := 3) hG.M (by omega) rfl (by omega) (fun r e _ => ⟨fun _ => ⟨md, hG.rmd, dm, im, M10, M11, by rw [M12, z_in]; decide, fun v14 e14 => ⟨n 5 / 4 + 1, ?_⟩⟩, fun e2 => ?_⟩)⟩
      · rw [M13] at e14
        exact K135 _ v14 (iv 3).toInt.toNat (by rw [e14]; omega) (by omega) (by omega) (fun k k1 k2 k3 => by omega) (g5 (fun k k1 k2 => g4 k k1 k2 (by omega)))
      · rw [z_le, e, g1] at e2
        omega
    | succ m ih =>
      intro x i g1 g2 g3 g4 g5
      unfold w_Checker_checkOwn_L90
      refine ⟨hG.kck, md, hG.rmd, hG.kmd, rw 4, hG.M.row (by omega), hG.M.krow (by omega), md_lines (c := 3) hG.M (by omega) rfl (by omega) (fun r e _ => ⟨fun e2 => ⟨md, hG.rmd, dm, im, M10, M11, by rw [M12, z_in]; decide, fun v14 e14 => ⟨n 5 / 4 + 1, ?_⟩⟩, fun e2 => ⟨md, hG.rmd, dm, rw 4, hG.M.row (by omega), ?_⟩⟩)⟩
      · rw [M13] at e14
        rw [z_le, e, g1] at e2
        exact K135 _ v14 (iv 3).toInt.toNat (by rw [e14]; omega) (by omega) (by omega) (fun k k1 k2 k3 => by omega) (g5 (fun k k1 k2 => g4 k k1 k2 (by omega)))
      · rw [z_le, e, g1] at e2
        have ex : (x + 1).toInt = (i + 1 : Nat) := by rw [z_add, g1]; simp only [Int32.reduceToInt]; omega
        have b2 : n 4 / 3 - (i + 1) ≤ m := by omega
        refine ck_checkLimits (i := i) hT hG (by omega) rfl g1 (by omega) (fun a1 a2 a3 a4 _ => ih (x + 1) (i + 1) ex (by omega) b2 (fun k k1 k2 k3 => ?_) g5)
        simp only [Int64.reduceToInt] at a2 a3
        by_cases ek : k = i
        · exact ⟨by omega, a2, a3, a4⟩
        · exact g4 k k1 k2 (by omega)
  -- tables
  have K45 : ∀ (m : Nat) (x : Int32) (i : Nat), x.toInt = i → (iv 1).toInt ≤ i → n 3 / 3 - i ≤ m → (∀ k, k < n 3 / 3 → (iv 1).toInt ≤ k → k < i → k = 0) → ((∀ k, k < n 3 / 3 → (iv 1).toInt ≤ k → k = 0) → (∀ k, k < n 4 / 3 → (iv 2).toInt ≤ k → k = 0 ∧ (vs 4 1).toInt ≤ 65536 ∧ (vs 4 2).toInt ≤ 65536 ∧ ((vs 4 2).toInt = -1 ∨ (vs 4 1).toInt ≤ (vs 4 2).toInt)) → (∀ i, i < n 5 / 4 → (iv 3).toInt ≤ i → ∃ p : Nat, (vs 5 (4 * i + 3)).toInt = p ∧ ck_ex N cb ν (vs 5) (iv 3).toInt p (vs 5 (4 * i + 1)).toInt) → Qr h bc bs) → w_Checker_checkOwn_L45 Qr Qt (m + 1) ck x h bc bs := by
    intro m
    induction m with
    | zero =>
      intro x i g1 g2 g3 g4 g5
      unfold w_Checker_checkOwn_L45
      refine ⟨hG.kck, md, hG.rmd, hG.kmd, rw 3, hG.M.row (by omega), hG.M.krow (by omega), md_lines (c := 3) hG.M (by omega) rfl (by omega) (fun r e _ => ⟨fun _ => ⟨md, hG.rmd, dm, im, M10, M11, by rw [M12, z_in]; decide, fun v14 e14 => ⟨n 4 / 3 + 1, ?_⟩⟩, fun e2 => ?_⟩)⟩
      · rw [M13] at e14
        exact K90 _ v14 (iv 2).toInt.toNat (by rw [e14]; omega) (by omega) (by omega) (fun k k1 k2 k3 => by omega) (g5 (fun k k1 k2 => g4 k k1 k2 (by omega)))
      · rw [z_le, e, g1] at e2
        omega
    | succ m ih =>
      intro x i g1 g2 g3 g4 g5
      unfold w_Checker_checkOwn_L45
      refine ⟨hG.kck, md, hG.rmd, hG.kmd, rw 3, hG.M.row (by omega), hG.M.krow (by omega), md_lines (c := 3) hG.M (by omega) rfl (by omega) (fun r e _ => ⟨fun e2 => ⟨md, hG.rmd, dm, im, M10, M11, by rw [M12, z_in]; decide, fun v14 e14 => ⟨n 4 / 3 + 1, ?_⟩⟩, fun e2 => ⟨md, hG.rmd, dm, rw 3, hG.M.row (by omega), ?_⟩⟩)⟩
      · rw [M13] at e14
        rw [z_le, e, g1] at e2
        exact K90 _ v14 (iv 2).toInt.toNat (by rw [e14]; omega) (by omega) (by omega) (fun k k1 k2 k3 => by omega) (g5 (fun k k1 k2 => g4 k k1 k2 (by omega)))
      · rw [z_le, e, g1] at e2
        have ex : (x + 1).toInt = (i + 1 : Nat) := by rw [z_add, g1]; simp only [Int32.reduceToInt]; omega
        have b2 : n 3 / 3 - (i + 1) ≤ m := by omega
        refine ck_checkLimits (i := i) hT hG (by omega) rfl g1 (by omega) (fun a1 _ _ _ _ => ih (x + 1) (i + 1) ex (by omega) b2 (fun k k1 k2 k3 => ?_) g5)
        by_cases ek : k = i
        · omega
        · exact g4 k k1 k2 (by omega)
  -- functions
  have K10 : ∀ (m : Nat) (x : Int32) (i : Nat), x.toInt = i → (iv 0).toInt ≤ i → n 2 / 2 - i ≤ m → (∀ k, k < n 2 / 2 → (iv 0).toInt ≤ k → k < i → 0 ≤ (vs 2 (2 * k + 1)).toInt ∧ (vs 2 (2 * k + 1)).toInt < (n 0 / 5 : Nat)) → w_Checker_checkOwn_L10 Qr Qt (m + 1) ck x h bc bs := by
    intro m
    induction m with
    | zero =>
      intro x i g1 g2 g3 g4
      unfold w_Checker_checkOwn_L10
      refine ⟨hG.kck, md, hG.rmd, hG.kmd, rw 2, hG.M.row (by omega), hG.M.krow (by omega), md_lines (c := 2) hG.M (by omega) rfl (by omega) (fun r e _ => ⟨fun _ => ⟨md, hG.rmd, dm, im, M10, M11, by rw [M12, z_in]; decide, fun v14 e14 => ⟨n 3 / 3 + 1, ?_⟩⟩, fun e2 => ?_⟩)⟩
      · rw [M13] at e14
        exact K45 _ v14 (iv 1).toInt.toNat (by rw [e14]; omega) (by omega) (by omega) (fun k k1 k2 k3 => by omega) (hQ (fun k k1 k2 => g4 k k1 k2 (by omega)))
      · rw [z_le, e, g1] at e2
        omega
    | succ m ih =>
      intro x i g1 g2 g3 g4
      unfold w_Checker_checkOwn_L10
      refine ⟨hG.kck, md, hG.rmd, hG.kmd, rw 2, hG.M.row (by omega), hG.M.krow (by omega), md_lines (c := 2) hG.M (by omega) rfl (by omega) (fun r e _ => ⟨fun e2 => ⟨md, hG.rmd, dm, im, M10, M11, by rw [M12, z_in]; decide, fun v14 e14 => ⟨n 3 / 3 + 1, ?_⟩⟩, fun e2 => ?_⟩)⟩
      · rw [M13] at e14
        rw [z_le, e, g1] at e2
        exact K45 _ v14 (iv 1).toInt.toNat (by rw [e14]; omega) (by omega) (by omega) (fun k k1 k2 k3 => by omega) (hQ (fun k k1 k2 => g4 k k1 k2 (by omega)))
      · rw [z_le, e, g1] at e2
        have ex : (x + 1).toInt = (i + 1 : Nat) := by rw [z_add, g1]; simp only [Int32.reduceToInt]; omega
        have b2 : n 2 / 2 - (i + 1) ≤ m := by omega
        refine ck_checkFunction (i := i) hT hG g1 (by omega) (fun a1 a2 _ => ih (x + 1) (i + 1) ex (by omega) b2 (fun k k1 k2 k3 => ?_))
        by_cases ek : k = i
        · subst ek
          exact ⟨a1, a2⟩
        · exact g4 k k1 k2 (by omega)
  unfold w_Checker_checkOwn
  refine ⟨hG.kck, md, hG.rmd, dm, im, M10, M11, by rw [M12, z_in]; decide, fun v7 e7 => ⟨n 2 / 2 + 1, ?_⟩⟩
  rw [M13] at e7
  exact K10 _ v7 (iv 0).toInt.toNat (by rw [e7]; omega) (by omega) (by omega) (fun k k1 k2 k3 => by omega)
theorem ck_countOf {Qr : Int32 → xb_H → Prop} {x : Int32} {κ : Nat} (hG : ck_G S h0 h md rd op ck cd nt im N ca rw it n vs cb ν iv rc rs bc bs) (hx : x.toInt = κ) (hκ : κ < 4)
    (hQ : ∀ r : Int32, (κ = 0 → r.toInt = (n 2 / 2 : Nat)) → (κ = 1 → r.toInt = (n 3 / 3 : Nat)) → (κ = 2 → r.toInt = (n 4 / 3 : Nat)) → (κ = 3 → r.toInt = (n 5 / 4 : Nat)) → Qr r h) : w_Checker_countOf ck x h Qr := by
  unfold w_Checker_countOf
  refine ⟨fun e => ⟨hG.kck, md, hG.rmd, hG.kmd, rw 2, hG.M.row (by omega), hG.M.krow (by omega), md_lines (c := 2) hG.M (by omega) rfl (by omega) (fun r e1 _ => ?_)⟩, fun e => ⟨hG.kck, md, hG.rmd, hG.kmd, rw 3, hG.M.row (by omega), hG.M.krow (by omega), md_lines (c := 3) hG.M (by omega) rfl (by omega) (fun r e1 _ => ?_)⟩, fun e => ⟨hG.kck, md, hG.rmd, hG.kmd, rw 4, hG.M.row (by omega), hG.M.krow (by omega), md_lines (c := 3) hG.M (by omega) rfl (by omega) (fun r e1 _ => ?_)⟩, fun e0 e2 e3 => ⟨hG.kck, md, hG.rmd, hG.kmd, rw 5, hG.M.row (by omega), hG.M.krow (by omega), md_lines (c := 4) hG.M (by omega) rfl (by omega) (fun r e1 _ => ?_)⟩⟩
  · rw [z_eq, hx] at e
    simp only [Int32.reduceToInt] at e
    exact hQ r (fun _ => e1) (fun _ => by omega) (fun _ => by omega) (fun _ => by omega)
  · rw [z_eq, hx] at e
    simp only [Int32.reduceToInt] at e
    exact hQ r (fun _ => by omega) (fun _ => e1) (fun _ => by omega) (fun _ => by omega)
  · rw [z_eq, hx] at e
    simp only [Int32.reduceToInt] at e
    exact hQ r (fun _ => by omega) (fun _ => by omega) (fun _ => e1) (fun _ => by omega)
  · rw [z_eq, hx] at e0 e2 e3
    simp only [Int32.reduceToInt] at e0 e2 e3
    exact hQ r (fun _ => by omega) (fun _ => by omega) (fun _ => by omega) (fun _ => e1)
theorem md_exportNamedBelow {Qr : Int32 → xb_H → Prop} {b : Nat} {x1 x3 x4 : Int32} (hM : md_M h md cd nt im N rw it n vs cb ν iv) (hL : xr_L 5 (mp6 N) (n 6) (vs 6)) (hn : n 6 ≤ 2 * N) (k1 : x1.toInt ≤ (n 6 / 5 : Nat)) (kb : xb_k h b = 100) (h3 : 0 ≤ x3.toInt) (h4 : 0 ≤ x4.toInt) (lb : x3.toInt + x4.toInt ≤ xb_n h b) (mb : xb_n h b ≤ 1000000000)
    (hQ : ∀ r : Int32, r.toInt = -1 ∨ (0 ≤ r.toInt ∧ r.toInt < x1.toInt) → Qr r h) : w_StackModule_exportNamedBelow md x1 b x3 x4 h Qr := by
  obtain ⟨⟨M1, M2, M3, M4, M5⟩, -, -, -, MN⟩ := id hM
  have r1 := z_rg x1
  have key : ∀ (m : Nat) (x : Int32) (i : Nat), x.toInt = i → x1.toInt - i ≤ m → w_StackModule_exportNamedBelow_L3 Qr (m + 1) md x1 b x3 x4 x h := by
    intro m
    induction m with
    | zero =>
      intro x i g1 g2
      unfold w_StackModule_exportNamedBelow_L3
      refine ⟨fun _ => hQ _ (.inl rfl), fun e => ?_⟩
      rw [z_le, g1] at e
      omega
    | succ m ih =>
      intro x i g1 g2
      unfold w_StackModule_exportNamedBelow_L3
      refine ⟨fun _ => hQ _ (.inl rfl), fun e => ?_⟩
      rw [z_le, g1] at e
      have ex : (x + 1).toInt = (i + 1 : Nat) := by rw [z_add, g1]; simp only [Int32.reduceToInt]; omega
      have go : w_StackModule_exportNamedBelow_L51 (w_StackModule_exportNamedBelow_L3 Qr (m + 1)) Qr md x1 b x3 x4 x h := ih (x + 1) (i + 1) ex (by omega)
      obtain ⟨p, hi⟩ := hL.at (by omega) (i := i) (by omega)
      dsimp only [mp6] at p
      obtain ⟨p0, p1, p2, p3, p4, p5, p6, p7, p8⟩ := p
      refine ⟨M1, rw 6, hM.row (by omega), hM.krow (by omega), md_at (c := 5) hM (i := i) (j := 4) (by omega) rfl g1 rfl (by omega) hi (fun r6 e6 _ => ⟨fun _ => go, fun e7 => ⟨cd, M2, rw 6, hM.row (by omega), hM.krow (by omega), md_at (c := 5) hM (i := i) (j := 3) (by omega) rfl g1 rfl (by omega) hi (fun r12 e12 _ => ?_)⟩⟩)⟩
      rw [z_eq, e6] at e7
      refine sp_sameBytes M3 kb (by omega) h3 h4 (by rw [M4]; omega) lb (by omega) mb (fun r14 _ _ => ⟨fun _ => go, fun _ => hQ x (.inr ⟨by omega, by omega⟩)⟩)
  unfold w_StackModule_exportNamedBelow
  exact ⟨x1.toInt.toNat + 1, key _ 0 0 rfl (by omega)⟩
end CK3
