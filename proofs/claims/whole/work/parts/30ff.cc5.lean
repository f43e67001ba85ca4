-- equality: the class's checker, exact: data, elements
section CC6
variable {S : Nat → Prop} {h0 h : xb_H} {md rd op ck cd nt im N rc rs b : Nat} {ca : Nat → Nat} {rw it n : Nat → Nat} {vs : Nat → Nat → Int64} {cb cA ν iv : Nat → Int32} {bc bs : Nat} {Qt : String → xb_H → Nat → Nat → Prop} {C : Option (Nat × Nat)} {T : Sm} {s sa : Int32} {D : zM}
theorem enF_n {q : Nat} (h : enF cA q = none) : ub cA q = 11 := by
  unfold enF at h
  split at h
  · assumption
  · cases h
theorem ckCo_nn {P : Nat} {ty : Int} (h : ckCo D P ty = none) : 4 ≤ wk_sh ((qc D P).toInt % 256) ∧ ub (qc D) (qW (qc D) P) = 11 := by
  unfold ckCo at h
  split at h
  · rename_i h1
    have h2 : wk_sh ((qc D P).toInt % 256) = 4 := by
      rw [← ub_i, h1]
      rfl
    repeat' split at h
    all_goals first
      | cases h
      | exact ⟨by omega, enF_n h⟩
  · split at h
    · rename_i h1
      have h2 := wk_shc h1.1 h1.2
      rw [ub_i] at h2
      split at h
      · cases h
      · exact ⟨by omega, enF_n h⟩
    · cases h
/-- a constant's list ends behind its end -/
theorem eW.cst {E P a : Nat} {ty : Int} (hD : qc D = cA) (hW : eW cA ν b a E P) (h : ckCo D P ty = none) : E = qW (qc D) P + 1 := by
  obtain ⟨h4, h11⟩ := ckCo_nn h
  rw [hD] at h4 h11 ⊢
  obtain ⟨h1, h2, m, hw⟩ := hW
  cases m with
  | zero => exact hw.elim
  | succ m =>
    obtain ⟨h3, q, h5, h6, h7⟩ := hw
    rw [qW_E h5] at h11 ⊢
    rcases h7 with h8 | ⟨h8, h9, h10⟩
    · omega
    · rw [if_neg (by omega), if_neg (by omega)] at h10
      cases m with
      | zero => exact h10.elim
      | succ m =>
        obtain ⟨g3, q2, g5, g6, g7⟩ := h10
        have hs : wk_sh ((cA q).toInt % 256) = 3 := by
          rw [← ub_i, h11]
          rfl
        rcases g7 with g8 | ⟨g8, -⟩
        · omega
        · exact absurd ⟨hs, rfl⟩ g8
theorem cy_checkOffset {Qr : xb_H → Nat → Nat → Prop} {x2 x3 : Int32} {k i p e b0 w c1 cnt E : Nat} {fo : Option (Nat × Nat)} (hT : ckT S h0 md rd op ck ca rc rs b C Qt) (hG : ck_G S h0 h md rd op ck cd nt im N ca rw it n vs cb ν iv rc rs bc bs) (hk : k < 12) (hc : xr_c k = 5) (hx : x2.toInt = i) (hi : 5 * i + 5 ≤ n k)
    (hv : ∀ i : Nat, (i : Int) < (iv 3).toInt → 4 * i + 4 ≤ n 5 ∧ 124 ≤ (vs 5 (4 * i + 1)).toInt ∧ (vs 5 (4 * i + 1)).toInt ≤ 127 ∧ ((vs 5 (4 * i + 2)).toInt = 0 ∨ (vs 5 (4 * i + 2)).toInt = 1)) (hby : ∀ j, -128 ≤ (cb j).toInt ∧ (cb j).toInt ≤ 127)
    (hp : (vs k (5 * i + 2)).toInt = p) (hm : mex cb ν b0 p e) (hb : b0 ≤ N) (hE : eR cA ν b N T n vs iv s sa) (hD : D = zk b N cA T) (hCx : cx_ cA cb b N) (hW : eW cA ν b N E (b + p)) (h3 : x3.toInt = cnt) (hw : (vs k (5 * i)).toInt + b = w) (hwb : b ≤ w) (hwN : w < b + N) (hc1 : (vs k (5 * i + 1)).toInt = c1) (hf : fo = if cnt ≤ c1 then some (20, w) else ckCo D (b + p) 127) (hC : hit C fo) (hQ : 0 ≤ (vs k (5 * i + 1)).toInt → (vs k (5 * i + 1)).toInt < x3.toInt → ck_ex N cb ν (vs 5) (iv 3).toInt p 127 → fo = none → Qr h bc bs) : w_Checker_checkOffset ck (rw k) x2 x3 h bc bs Qr Qt := by
  have hN := hG.M.2.2.2.2
  have hpN : p ≤ N := by
    obtain ⟨p', m, e1, e2, e3, e4⟩ := hm
    omega
  unfold w_Checker_checkOffset w_Checker_checkOffset_L28
  refine ⟨hG.M.krow hk, md_longAt (c := 5) hG.M (i := i) (j := 1) hk hc hx rfl (by omega) hi (fun _ => sp_isThere (fun r5 e5 _ => ⟨fun f1 => ⟨hG.M.krow hk, md_at (c := 5) hG.M (i := i) (j := 2) hk hc hx rfl (by omega) hi (fun r3 e3 _ => ⟨hG.kck, ?_⟩)⟩, fun f1 => ⟨hG.kck, md, hG.rmd, md_at (c := 5) hG.M (i := i) (j := 0) hk hc hx rfl (by omega) hi (fun r9 e9 _ => ⟨hG.kmd, cy_fail (c := 20) (w := w) hT hG (hC _ (by rw [hf, if_pos (e5.elim (fun f2 => by have := f2.2; omega) (fun f2 => by have := f2.1; rw [f1] at this; exact absurd this (by decide)))])) rfl (by rw [e9]; simp only [Nat.add_zero]; omega)⟩)⟩⟩))⟩
  rcases e5 with ⟨f2, -⟩ | ⟨-, f2, f3⟩
  · exact absurd f2 f1
  have hie : fo = ckCo D (b + p) 127 := by rw [hf, if_neg (by omega)]
  exact cy_checkExpression hT hG hv hby (by rw [e3, hp]; omega) hm hb hE hD hCx hW (by rw [hie] at hC; exact hC) (fun he hn0 _ => hQ f2 f3 he (by rw [hie]; exact hn0))
theorem cy_checkData {Qr : xb_H → Nat → Nat → Prop} {b0 a : Nat} (hT : ckT S h0 md rd op ck ca rc rs b C Qt) (hG : ck_G S h0 h md rd op ck cd nt im N ca rw it n vs cb ν iv rc rs bc bs) (hI : md_K N cb n vs ν iv b0 a) (ha : a ≤ N) (hb : b0 ≤ N) (hq : md_Q n iv) (hby : ∀ j, -128 ≤ (cb j).toInt ∧ (cb j).toInt ≤ 127) (hE : eR cA ν b N T n vs iv s sa) (hD : D = zk b N cA T) (hCx : cx_ cA cb b N) (hC : hit C (sqF (ckDa D) (qt D 11)))
    (hQ : (∀ i, i < n 11 / 5 → (vs 11 (5 * i + 1)).toInt < (n 4 / 3 : Nat) ∧ ∃ p : Nat, (vs 11 (5 * i + 2)).toInt = p ∧ ck_ex N cb ν (vs 5) (iv 3).toInt p 127) → sqF (ckDa D) (qt D 11) = none → Qr h bc bs) : w_Checker_checkData ck h bc bs Qr Qt := by
  have hn := hI.nk (k := 11) (by omega)
  have hN := hG.M.2.2.2.2
  have hvars := hI.vars hq
  obtain ⟨en, c0, c1, c2, c3, c4, c5, c6, c7, c8, c9, c10, c11, -⟩ := hI
  have hqc : qc D = cA := by rw [hD]; rfl
  have e11n : n 11 = 5 * qt D 11 := by rw [hD]; exact hE.2.2.2.2.2.2.2.2.1.1
  have hl11 : ∀ i, i < qt D 11 → ∃ E, eW cA ν b N E (cE cA (qp D 11 i)) ∧ (vs 11 (5 * i)).toInt + b = qp D 11 i ∧ (vs 11 (5 * i + 1)).toInt = cV cA (qp D 11 i) ∧ (vs 11 (5 * i + 2)).toInt + b = cE cA (qp D 11 i) ∧ (vs 11 (5 * i + 3)).toInt + b = cE cA E ∧ (vs 11 (5 * i + 4)).toInt = cV cA E := by rw [hD]; exact hE.2.2.2.2.2.2.2.2.1.2
  have m4 := zk_n4 hE hD
  have key : ∀ (m : Nat) (x : Int32) (i : Nat), x.toInt = i → n 11 / 5 - i ≤ m → (∀ k, k < n 11 / 5 → k < i → (vs 11 (5 * k + 1)).toInt < (n 4 / 3 : Nat) ∧ ∃ p : Nat, (vs 11 (5 * k + 2)).toInt = p ∧ ck_ex N cb ν (vs 5) (iv 3).toInt p 127) → sqF (ckDa D) i = none → i ≤ qt D 11 → w_Checker_checkData_L2 Qr Qt (m + 1) ck x h bc bs := by
    intro m
    induction m with
    | zero =>
      intro x i g1 g2 g3 g4 g5
      unfold w_Checker_checkData_L2
      refine ⟨hG.kck, md, hG.rmd, hG.kmd, rw 11, hG.M.row (by omega), hG.M.krow (by omega), md_lines (c := 5) hG.M (by omega) rfl (by omega) (fun r e _ => ⟨fun _ => hQ (fun k k1 => g3 k k1 (by omega)) (by rw [show qt D 11 = i by omega]; exact g4), fun e2 => ?_⟩)⟩
      rw [z_le, e, g1] at e2
      omega
    | succ m ih =>
      intro x i g1 g2 g3 g4 g5
      unfold w_Checker_checkData_L2
      refine ⟨hG.kck, md, hG.rmd, hG.kmd, rw 11, hG.M.row (by omega), hG.M.krow (by omega), md_lines (c := 5) hG.M (by omega) rfl (by omega) (fun r e _ => ⟨fun e2 => hQ (fun k k1 => g3 k k1 (by rw [z_le, e, g1] at e2; omega)) (by rw [z_le, e, g1] at e2; rw [show qt D 11 = i by omega]; exact g4), fun e2 => ?_⟩)⟩
      rw [z_le, e, g1] at e2
      have ex : (x + 1).toInt = (i + 1 : Nat) := by rw [z_add, g1]; simp only [Int32.reduceToInt]; omega
      have b2 : n 11 / 5 - (i + 1) ≤ m := by omega
      obtain ⟨p, hi⟩ := c11.at (by omega) (i := i) (by omega)
      dsimp only [mp11] at p
      obtain ⟨p0, p1, p2, p3, p4, -⟩ := p
      obtain ⟨pp, mm, f1, f2, f3, f4⟩ := id p4
      rw [f1] at p4
      have hi11 : i < qt D 11 := by omega
      obtain ⟨E, w1, w2, w3, w4, -, -⟩ := hl11 i hi11
      simp only [Nat.add_zero] at p0 p1
      have hpp : cE cA (qp D 11 i) = b + pp := by omega
      rw [hpp] at w1
      have hie : ckDa D i = if iM D 2 + qt D 5 ≤ cV cA (qp D 11 i) then some (20, qp D 11 i) else ckCo D (b + pp) 127 := by
        unfold ckDa
        rw [hqc, hpp]
      refine ⟨md, hG.rmd, hG.kmd, rw 11, hG.M.row (by omega), md, hG.rmd, hG.kmd, rw 4, hG.M.row (by omega), hG.M.krow (by omega), md_lines (c := 3) hG.M (by omega) rfl (by omega) (fun r17 e17 _ => cy_checkOffset (i := i) (p := pp) (cnt := iM D 2 + qt D 5) (fo := ckDa D i) hT hG (by omega) rfl g1 hi hvars hby f1 p4 hb hE hD hCx w1 (by rw [e17, m4, Nat.mul_div_cancel_left _ (by decide)]) w2 (by omega) (by omega) w3 hie (hC.sq hi11 g4) (fun a1 a2 a3 a4 _ => ih (x + 1) (i + 1) ex b2 (fun k k1 k2 => ?_) (sqF_s g4 a4) (by omega)))⟩
      by_cases ek : k = i
      · subst ek
        exact ⟨by rw [e17] at a2; exact a2, pp, f1, a3⟩
      · exact g3 k k1 (by omega)
  unfold w_Checker_checkData
  exact ⟨n 11 / 5 + 1, key _ 0 0 rfl (by omega) (fun k k1 k2 => by omega) rfl (by omega)⟩
theorem cy_checkElements {Qr : xb_H → Nat → Nat → Prop} {b0 a : Nat} (hT : ckT S h0 md rd op ck ca rc rs b C Qt) (hG : ck_G S h0 h md rd op ck cd nt im N ca rw it n vs cb ν iv rc rs bc bs) (hI : md_K N cb n vs ν iv b0 a) (ha : a ≤ N) (hb : b0 ≤ N) (hq : md_Q n iv) (hby : ∀ j, -128 ≤ (cb j).toInt ∧ (cb j).toInt ≤ 127) (hE : eR cA ν b N T n vs iv s sa) (hD : D = zk b N cA T) (hCx : cx_ cA cb b N) (hC : hit C (sqF (ckEl D) (qt D 9)))
    (hQ : (∀ i, i < n 7 / 5 → (vs 7 (5 * i + 1)).toInt < (n 3 / 3 : Nat) ∧ (∃ p : Nat, (vs 7 (5 * i + 2)).toInt = p ∧ ck_ex N cb ν (vs 5) (iv 3).toInt p 127) ∧ ∀ j : Nat, (j : Int) < (vs 7 (5 * i + 4)).toInt → ∃ q : Nat, (q : Int) = (vs 7 (5 * i + 3)).toInt + j ∧ 0 ≤ (vs 8 (2 * q + 1)).toInt ∧ (vs 8 (2 * q + 1)).toInt < (n 2 / 2 : Nat)) → sqF (ckEl D) (qt D 9) = none → Qr h bc bs) : w_Checker_checkElements ck h bc bs Qr Qt := by
  have hn := hI.nk (k := 7) (by omega)
  have hn8 := hI.nk (k := 8) (by omega)
  have hN := hG.M.2.2.2.2
  have hvars := hI.vars hq
  obtain ⟨en, c0, c1, c2, c3, c4, c5, c6, c7, c8, -⟩ := hI
  have hqc : qc D = cA := by rw [hD]; rfl
  have e7n : n 7 = 5 * qt D 9 := by rw [hD]; exact hE.2.2.2.2.2.2.1.1
  have hl7 : ∀ i, i < qt D 9 → ∃ E f : Nat, eW cA ν b N E (cE cA (qp D 9 i)) ∧ (vs 7 (5 * i)).toInt + b = qp D 9 i ∧ (vs 7 (5 * i + 1)).toInt = cV cA (qp D 9 i) ∧ (vs 7 (5 * i + 2)).toInt + b = cE cA (qp D 9 i) ∧ (vs 7 (5 * i + 3)).toInt = f ∧ (vs 7 (5 * i + 4)).toInt = cV cA E ∧ 2 * f + 2 * cV cA E ≤ n 8 ∧ lst8 cA b (2 * f) (cE cA E) (cV cA E) (vs 8) := by rw [hD]; exact hE.2.2.2.2.2.2.1.2
  have m3 := zk_n3 hE hD
  have m2 := zk_n2 hE hD
  have inner : ∀ (K : Nat → Nat → Int32 → xb_H → Nat → Nat → Prop) (x : Int32) (i p9 : Nat) (fr : Int32), x.toInt = i → i < n 7 / 5 → fr.toInt = (vs 7 (5 * i + 3)).toInt → ((∀ j : Nat, (j : Int) < (vs 7 (5 * i + 4)).toInt → ∃ q : Nat, (q : Int) = (vs 7 (5 * i + 3)).toInt + j ∧ 0 ≤ (vs 8 (2 * q + 1)).toInt ∧ (vs 8 (2 * q + 1)).toInt < (n 2 / 2 : Nat)) → lsF D (vs 7 (5 * i + 4)).toInt.toNat p9 = none → K ck (rw 7) (x + 1) h bc bs) → (∀ j : Nat, (j : Int) < (vs 7 (5 * i + 4)).toInt → (vs 8 (2 * ((vs 7 (5 * i + 3)).toInt.toNat + j))).toInt + b = itE cA j p9 ∧ (vs 8 (2 * ((vs 7 (5 * i + 3)).toInt.toNat + j) + 1)).toInt = cV cA (itE cA j p9)) → hit C (lsF D (vs 7 (5 * i + 4)).toInt.toNat p9) → ∀ (m : Nat) (y : Int32) (j : Nat), y.toInt = j → (vs 7 (5 * i + 4)).toInt - j ≤ m → (∀ k : Nat, k < j → (k : Int) < (vs 7 (5 * i + 4)).toInt → ∃ q : Nat, (q : Int) = (vs 7 (5 * i + 3)).toInt + k ∧ 0 ≤ (vs 8 (2 * q + 1)).toInt ∧ (vs 8 (2 * q + 1)).toInt < (n 2 / 2 : Nat)) → lsF D (vs 7 (5 * i + 4)).toInt.toNat p9 = lsF D ((vs 7 (5 * i + 4)).toInt.toNat - j) (itE cA j p9) → w_Checker_checkElements_L44 K Qr Qt (m + 1) ck (rw 7) x fr y h bc bs := by
    intro K x i p9 fr g1 g2 gf hK hls hit'
    obtain ⟨p, hi⟩ := c7.at (by omega) g2
    dsimp only [mp7] at p
    obtain ⟨p0, p1, p2, p3, p4, p5, p6, p7⟩ := p
    intro m
    induction m with
    | zero =>
      intro y j f1 f2 f3 f4
      unfold w_Checker_checkElements_L44
      refine ⟨hG.M.krow (by omega), md_at (c := 5) hG.M (i := i) (j := 4) (by omega) rfl g1 rfl (by omega) hi (fun r3 e3 _ => ⟨fun _ => hK (fun k k1 => f3 k (by omega) k1) (by rw [f4, show (vs 7 (5 * i + 4)).toInt.toNat - j = 0 by omega]; rfl), fun e2 => ?_⟩)⟩
      rw [z_le, e3, f1] at e2
      omega
    | succ m ih =>
      intro y j f1 f2 f3 f4
      unfold w_Checker_checkElements_L44
      refine ⟨hG.M.krow (by omega), md_at (c := 5) hG.M (i := i) (j := 4) (by omega) rfl g1 rfl (by omega) hi (fun r3 e3 _ => ⟨fun e2 => hK (fun k k1 => f3 k (by rw [z_le, e3, f1] at e2; omega) k1) (by rw [z_le, e3, f1] at e2; rw [f4, show (vs 7 (5 * i + 4)).toInt.toNat - j = 0 by omega]; rfl), fun e2 => ?_⟩)⟩
      rw [z_le, e3, f1] at e2
      have ey : (y + 1).toInt = (j + 1 : Nat) := by rw [z_add, f1]; simp only [Int32.reduceToInt]; omega
      obtain ⟨q, hqq⟩ : ∃ q : Nat, (q : Int) = (vs 7 (5 * i + 3)).toInt + j := ⟨((vs 7 (5 * i + 3)).toInt + j).toNat, by omega⟩
      have efy : (fr + y).toInt = q := by rw [z_add, gf, f1]; omega
      have b2 : (vs 7 (5 * i + 4)).toInt - (j + 1 : Nat) ≤ m := by omega
      obtain ⟨v0, v1⟩ := hls j (by omega)
      have eqq : (vs 7 (5 * i + 3)).toInt.toNat + j = q := by omega
      rw [eqq] at v0 v1
      obtain ⟨p8, hi8⟩ := c8.at (by omega) (i := q) (by omega)
      dsimp only [mp2] at p8
      simp only [Nat.add_zero] at p8
      have hst : (vs 7 (5 * i + 4)).toInt.toNat - j = ((vs 7 (5 * i + 4)).toInt.toNat - (j + 1)) + 1 := by omega
      refine ⟨hG.kck, md, hG.rmd, hG.kmd, rw 8, hG.M.row (by omega), hG.M.krow (by omega), md_longAt (c := 2) hG.M (i := q) (j := 1) (by omega) rfl efy rfl (by omega) (by omega) (fun _ => ⟨md, hG.rmd, hG.kmd, rw 2, hG.M.row (by omega), hG.M.krow (by omega), md_lines (c := 2) hG.M (by omega) rfl (by omega) (fun r17 e17 _ => sp_isThere (fun r19 e19 _ => ⟨fun h1 => ?_, fun h1 => ⟨md, hG.rmd, md, hG.rmd, hG.kmd, rw 8, hG.M.row (by omega), hG.M.krow (by omega), md_at (c := 2) hG.M (i := q) (j := 0) (by omega) rfl efy rfl (by omega) (by omega) (fun r9 e9 _ => ⟨hG.kmd, cy_fail (c := 20) (w := itE cA j p9) hT hG (hit' _ ?_) rfl (by rw [e9]; simp only [Nat.add_zero]; omega)⟩)⟩⟩))⟩)⟩
      rotate_left
      · rw [f4, hst, lsF_20 (by rw [hqc]; exact e19.elim (fun h2 => by have h2 := h2.2; rw [e17, m2, Nat.mul_div_cancel_left _ (by decide)] at h2; omega) (fun h2 => by have h2 := h2.1; rw [h1] at h2; exact absurd h2 (by decide)))]
      rcases e19 with ⟨h2, -⟩ | ⟨-, h2, h3⟩
      · exact absurd h2 h1
      refine ih (y + 1) (j + 1) ey b2 (fun k k1 k2 => ?_) (by rw [f4, hst, lsF_1 (by rw [hqc]; rw [e17, m2, Nat.mul_div_cancel_left _ (by decide)] at h3; omega), hqc, itE_s])
      by_cases ek : k = j
      · subst ek
        exact ⟨q, hqq, h2, by rw [e17] at h3; exact h3⟩
      · exact f3 k (by omega) k2
  have key : ∀ (m : Nat) (x : Int32) (i : Nat), x.toInt = i → n 7 / 5 - i ≤ m → (∀ k, k < n 7 / 5 → k < i → (vs 7 (5 * k + 1)).toInt < (n 3 / 3 : Nat) ∧ (∃ p : Nat, (vs 7 (5 * k + 2)).toInt = p ∧ ck_ex N cb ν (vs 5) (iv 3).toInt p 127) ∧ ∀ j : Nat, (j : Int) < (vs 7 (5 * k + 4)).toInt → ∃ q : Nat, (q : Int) = (vs 7 (5 * k + 3)).toInt + j ∧ 0 ≤ (vs 8 (2 * q + 1)).toInt ∧ (vs 8 (2 * q + 1)).toInt < (n 2 / 2 : Nat)) → sqF (ckEl D) i = none → i ≤ qt D 9 → w_Checker_checkElements_L10 Qr Qt (m + 1) ck (rw 7) x h bc bs := by
    intro m
    induction m with
    | zero =>
      intro x i g1 g2 g3 g4 g5
      unfold w_Checker_checkElements_L10
      refine ⟨hG.M.krow (by omega), md_lines (c := 5) hG.M (by omega) rfl (by omega) (fun r e _ => ⟨fun _ => hQ (fun k k1 => g3 k k1 (by omega)) (by rw [show qt D 9 = i by omega]; exact g4), fun e2 => ?_⟩)⟩
      rw [z_le, e, g1] at e2
      omega
    | succ m ih =>
      intro x i g1 g2 g3 g4 g5
      unfold w_Checker_checkElements_L10
      refine ⟨hG.M.krow (by omega), md_lines (c := 5) hG.M (by omega) rfl (by omega) (fun r e _ => ⟨fun e2 => hQ (fun k k1 => g3 k k1 (by rw [z_le, e, g1] at e2; omega)) (by rw [z_le, e, g1] at e2; rw [show qt D 9 = i by omega]; exact g4), fun e2 => ?_⟩)⟩
      rw [z_le, e, g1] at e2
      have ex : (x + 1).toInt = (i + 1 : Nat) := by rw [z_add, g1]; simp only [Int32.reduceToInt]; omega
      have b2 : n 7 / 5 - (i + 1) ≤ m := by omega
      have hil : i < n 7 / 5 := by omega
      obtain ⟨p, hi⟩ := c7.at (by omega) (i := i) hil
      dsimp only [mp7] at p
      obtain ⟨p0, p1, p2, p3, p4, p5, p6, p7⟩ := p
      obtain ⟨pp, mm, f1, f2, f3, f4⟩ := id p4
      rw [f1] at p4
      have hi9 : i < qt D 9 := by omega
      obtain ⟨E, ff, w1, w2, w3, w4, w5, w6, w7, w8⟩ := hl7 i hi9
      simp only [Nat.add_zero] at p0 p1
      have hpp : cE cA (qp D 9 i) = b + pp := by omega
      rw [hpp] at w1
      have hitE := hC.sq hi9 g4
      have hie : ¬ iM D 1 + qt D 4 ≤ cV cA (qp D 9 i) → ckEl D i = (ckCo D (b + pp) 127).or (lsF D (cV (qc D) (qW (qc D) (b + pp) + 1)) (cE (qc D) (qW (qc D) (b + pp) + 1))) := fun h9 => by
        rw [ckEl_n (by rw [hqc]; exact h9), hqc, hpp]
      have hit1 : hit C (if iM D 1 + qt D 4 ≤ cV cA (qp D 9 i) then some (20, qp D 9 i) else ckCo D (b + pp) 127) := fun Fl hFl => by
        split at hFl
        · rename_i h9
          refine hitE Fl ?_
          rw [ckEl_20 (by rw [hqc]; exact h9)]
          exact hFl
        · rename_i h9
          refine hitE Fl ?_
          rw [hie h9, hFl]
          rfl
      refine ⟨hG.kck, md, hG.rmd, hG.kmd, rw 3, hG.M.row (by omega), hG.M.krow (by omega), md_lines (c := 3) hG.M (by omega) rfl (by omega) (fun r11 e11 _ => cy_checkOffset (i := i) (p := pp) (cnt := iM D 1 + qt D 4) hT hG (by omega) rfl g1 hi hvars hby f1 p4 hb hE hD hCx w1 (by rw [e11, m3, Nat.mul_div_cancel_left _ (by decide)]) w2 (by omega) (by omega) w3 rfl hit1 (fun a1 a2 a3 a4 _ => md_at (c := 5) hG.M (i := i) (j := 3) (by omega) rfl g1 rfl (by omega) hi (fun r15 e15 _ => ⟨(vs 7 (5 * i + 4)).toInt.toNat + 1, ?_⟩)))⟩
      have hge : ¬ iM D 1 + qt D 4 ≤ cV cA (qp D 9 i) := by rw [e11, m3, Nat.mul_div_cancel_left _ (by decide)] at a2; omega
      rw [if_neg hge] at a4
      have hEE : E = qW (qc D) (b + pp) + 1 := w1.cst hqc a4
      have hie' := hie hge
      rw [a4, ← hEE, hqc] at hie'
      have hie2 : ckEl D i = lsF D (vs 7 (5 * i + 4)).toInt.toNat (cE cA E) := by
        rw [hie', w6]
        rfl
      refine inner _ x i (cE cA E) r15 g1 hil (by rw [e15]; omega) (fun hh hn0 => ih (x + 1) (i + 1) ex b2 (fun k k1 k2 => ?_) (sqF_s g4 (by rw [hie2]; exact hn0)) (by omega)) (fun j hj => ?_) (by rw [← hie2]; exact hitE) _ 0 0 rfl (by omega) (fun k k1 => by omega) rfl
      rotate_left
      · have := w8 j (by omega)
        rw [show 2 * ((vs 7 (5 * i + 3)).toInt.toNat + j) = 2 * ff + 2 * j by omega]
        exact this
      by_cases ek : k = i
      · subst ek
        exact ⟨by rw [e11] at a2; exact a2, ⟨pp, f1, a3⟩, hh⟩
      · exact g3 k k1 (by omega)
  unfold w_Checker_checkElements
  exact ⟨hG.kck, md, hG.rmd, hG.kmd, rw 7, hG.M.row (by omega), n 7 / 5 + 1, key _ 0 0 rfl (by omega) (fun k k1 k2 => by omega) rfl (by omega)⟩
end CC6
