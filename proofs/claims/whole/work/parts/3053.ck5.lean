-- the checker: elements
section CK5
variable {S : Nat → Prop} {h0 h : xb_H} {md rd op ck cd nt im N rc rs : Nat} {ca : Nat → Nat} {rw it n : Nat → Nat} {vs : Nat → Nat → Int64} {cb ν iv : Nat → Int32} {bc bs : Nat} {Qt : String → xb_H → Nat → Nat → Prop}
theorem ck_checkElements {Qr : xb_H → Nat → Nat → Prop} {b a : Nat} (hT : ck_T S h0 md rd op ck ca rc rs Qt) (hG : ck_G S h0 h md rd op ck cd nt im N ca rw it n vs cb ν iv rc rs bc bs) (hI : md_K N cb n vs ν iv b a) (ha : a ≤ N) (hb : b ≤ N) (hq : md_Q n iv) (hby : ∀ j, -128 ≤ (cb j).toInt ∧ (cb j).toInt ≤ 127)
    (hQ : (∀ i, i < n 7 / 5 → (vs 7 (5 * i + 1)).toInt < (n 3 / 3 : Nat) ∧ (∃ p : Nat, (vs 7 (5 * i + 2)).toInt = p ∧ ck_ex N cb ν (vs 5) (iv 3).toInt p 127) ∧ ∀ j : Nat, (j : Int) < (vs 7 (5 * i + 4)).toInt → ∃ q : Nat, (q : Int) = (vs 7 (5 * i + 3)).toInt + j ∧ 0 ≤ (vs 8 (2 * q + 1)).toInt ∧ (vs 8 (2 * q + 1)).toInt < (n 2 / 2 : Nat)) → Qr h bc bs) : w_Checker_checkElements ck h bc bs Qr Qt := by
  have hn := hI.nk (k := 7) (by omega)
  have hn8 := hI.nk (k := 8) (by omega)
  have hN := hG.M.2.2.2.2
  have hvars := hI.vars hq
  obtain ⟨en, c0, c1, c2, c3, c4, c5, c6, c7, c8, -⟩ := hI
  have inner : ∀ (K : Nat → Nat → Int32 → xb_H → Nat → Nat → Prop) (x : Int32) (i : Nat) (fr : Int32), x.toInt = i → i < n 7 / 5 → fr.toInt = (vs 7 (5 * i + 3)).toInt → ((∀ j : Nat, (j : Int) < (vs 7 (5 * i + 4)).toInt → ∃ q : Nat, (q : Int) = (vs 7 (5 * i + 3)).toInt + j ∧ 0 ≤ (vs 8 (2 * q + 1)).toInt ∧ (vs 8 (2 * q + 1)).toInt < (n 2 / 2 : Nat)) → K ck (rw 7) (x + 1) h bc bs) → ∀ (m : Nat) (y : Int32) (j : Nat), y.toInt = j → (vs 7 (5 * i + 4)).toInt - j ≤ m → (∀ k : Nat, k < j → (k : Int) < (vs 7 (5 * i + 4)).toInt → ∃ q : Nat, (q : Int) = (vs 7 (5 * i + 3)).toInt + k ∧ 0 ≤ (vs 8 (2 * q + 1)).toInt ∧ (vs 8 (2 * q + 1)).toInt < (n 2 / 2 : Nat)) → w_Checker_checkElements_L44 K Qr Qt (m + 1) ck (rw 7) x fr y h bc bs := by
    intro K x i fr g1 g2 gf hK
    obtain ⟨p, hi⟩ := c7.at (by omega) g2
    dsimp only [mp7] at p
    obtain ⟨p0, p1, p2, p3, p4, p5, p6, p7⟩ := p
    intro m
    induction m with
    | zero =>
      intro y j f1 f2 f3
      unfold w_Checker_checkElements_L44
      refine ⟨hG.M.krow (by omega), md_at (c := 5) hG.M (i := i) (j := 4) (by omega) rfl g1 rfl (by omega) hi (fun r3 e3 _ => ⟨fun _ => hK (fun k k1 => f3 k (by omega) k1), fun e2 => ?_⟩)⟩
      rw [z_le, e3, f1] at e2
      omega
    | succ m ih =>
      intro y j f1 f2 f3
      unfold w_Checker_checkElements_L44
      refine ⟨hG.M.krow (by omega), md_at (c := 5) hG.M (i := i) (j := 4) (by omega) rfl g1 rfl (by omega) hi (fun r3 e3 _ => ⟨fun e2 => hK (fun k k1 => f3 k (by rw [z_le, e3, f1] at e2; omega) k1), fun e2 => ?_⟩)⟩
      rw [z_le, e3, f1] at e2
      have ey : (y + 1).toInt = (j + 1 : Nat) := by rw [z_add, f1]; simp only [Int32.reduceToInt]; omega
      obtain ⟨q, hqq⟩ : ∃ q : Nat, (q : Int) = (vs 7 (5 * i + 3)).toInt + j := ⟨((vs 7 (5 * i + 3)).toInt + j).toNat, by omega⟩
      have efy : (fr + y).toInt = q := by rw [z_add, gf, f1]; omega
      have b2 : (vs 7 (5 * i + 4)).toInt - (j + 1 : Nat) ≤ m := by omega
      refine ⟨hG.kck, md, hG.rmd, hG.kmd, rw 8, hG.M.row (by omega), hG.M.krow (by omega), md_longAt (c := 2) hG.M (i := q) (j := 1) (by omega) rfl efy rfl (by omega) (by omega) (fun _ => ⟨md, hG.rmd, hG.kmd, rw 2, hG.M.row (by omega), hG.M.krow (by omega), md_lines (c := 2) hG.M (by omega) rfl (by omega) (fun r17 e17 _ => sp_isThere (fun r19 e19 _ => ⟨fun h1 => ?_, fun _ => ⟨md, hG.rmd, md, hG.rmd, hG.kmd, rw 8, hG.M.row (by omega), hG.M.krow (by omega), md_at (c := 2) hG.M (i := q) (j := 0) (by omega) rfl efy rfl (by omega) (by omega) (fun _ _ _ => ⟨hG.kmd, hG.fl hT⟩)⟩⟩))⟩)⟩
      rcases e19 with ⟨h2, -⟩ | ⟨-, h2, h3⟩
      · exact absurd h2 h1
      refine ih (y + 1) (j + 1) ey b2 (fun k k1 k2 => ?_)
      by_cases ek : k = j
      · subst ek
        exact ⟨q, hqq, h2, by rw [e17] at h3; exact h3⟩
      · exact f3 k (by omega) k2
  have key : ∀ (m : Nat) (x : Int32) (i : Nat), x.toInt = i → n 7 / 5 - i ≤ m → (∀ k, k < n 7 / 5 → k < i → (vs 7 (5 * k + 1)).toInt < (n 3 / 3 : Nat) ∧ (∃ p : Nat, (vs 7 (5 * k + 2)).toInt = p ∧ ck_ex N cb ν (vs 5) (iv 3).toInt p 127) ∧ ∀ j : Nat, (j : Int) < (vs 7 (5 * k + 4)).toInt → ∃ q : Nat, (q : Int) = (vs 7 (5 * k + 3)).toInt + j ∧ 0 ≤ (vs 8 (2 * q + 1)).toInt ∧ (vs 8 (2 * q + 1)).toInt < (n 2 / 2 : Nat)) → w_Checker_checkElements_L10 Qr Qt (m + 1) ck (rw 7) x h bc bs := by
    intro m
    induction m with
    | zero =>
      intro x i g1 g2 g3
      unfold w_Checker_checkElements_L10
      refine ⟨hG.M.krow (by omega), md_lines (c := 5) hG.M (by omega) rfl (by omega) (fun r e _ => ⟨fun _ => hQ (fun k k1 => g3 k k1 (by omega)), fun e2 => ?_⟩)⟩
      rw [z_le, e, g1] at e2
      omega
    | succ m ih =>
      intro x i g1 g2 g3
      unfold w_Checker_checkElements_L10
      refine ⟨hG.M.krow (by omega), md_lines (c := 5) hG.M (by omega) rfl (by omega) (fun r e _ => ⟨fun e2 => hQ (fun k k1 => g3 k k1 (by rw [z_le, e, g1] at e2; omega)), fun e2 => ?_⟩)⟩
      rw [z_le, e, g1] at e2
      have ex : (x + 1).toInt = (i + 1 : Nat) := by rw [z_add, g1]; simp only [Int32.reduceToInt]; omega
      have b2 : n 7 / 5 - (i + 1) ≤ m := by omega
      have hil : i < n 7 / 5 := by omega
      obtain ⟨p, hi⟩ := c7.at (by omega) (i := i) hil
      dsimp only [mp7] at p
      obtain ⟨p0, p1, p2, p3, p4, p5, p6, p7⟩ := p
      obtain ⟨pp, mm, f1, f2, f3, f4⟩ := id p4
      rw [f1] at p4
      refine ⟨hG.kck, md, hG.rmd, hG.kmd, rw 3, hG.M.row (by omega), hG.M.krow (by omega), md_lines (c := 3) hG.M (by omega) rfl (by omega) (fun r11 e11 _ => ck_checkOffset (i := i) (p := pp) hT hG (by omega) rfl g1 hi hvars hby f1 p4 hb (fun a1 a2 a3 _ => md_at (c := 5) hG.M (i := i) (j := 3) (by omega) rfl g1 rfl (by omega) hi (fun r15 e15 _ => ⟨(vs 7 (5 * i + 4)).toInt.toNat + 1, ?_⟩)))⟩
      refine inner _ x i r15 g1 hil (by rw [e15]; omega) (fun hh => ih (x + 1) (i + 1) ex b2 (fun k k1 k2 => ?_)) _ 0 0 rfl (by omega) (fun k k1 => by omega)
      by_cases ek : k = i
      · subst ek
        exact ⟨by rw [e11] at a2; exact a2, ⟨pp, f1, a3⟩, hh⟩
      · exact g3 k k1 (by omega)
  unfold w_Checker_checkElements
  exact ⟨hG.kck, md, hG.rmd, hG.kmd, rw 7, hG.M.row (by omega), n 7 / 5 + 1, key _ 0 0 rfl (by omega) (fun k k1 k2 => by omega)⟩
end CK5
