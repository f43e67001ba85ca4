-- the checker: expressions, imports, own things, exports, the start, elements, data
/-- an expression at p that gives a value of a type -/
def ck_ex (N : Nat) (cb ν : Nat → Int32) (v5 : Nat → Int64) (k3 : Int) (p : Nat) (τ : Int) : Prop :=
  p + 2 < N ∧ ((cb p).toInt = 35 ∧ (∃ i : Nat, (ν (p + 1)).toInt = i ∧ (i : Int) < k3 ∧ (v5 (4 * i + 1)).toInt = τ) ∨ 65 ≤ (cb p).toInt ∧ (cb p).toInt ≤ 68 ∧ τ = 192 - (cb p).toInt)
theorem wk_sh4 {b : Int} (h : b = 35) : wk_sh b = 4 := by subst h; decide
theorem wk_shc {b : Int} (h1 : 65 ≤ b) (h2 : b ≤ 68) : 9 ≤ wk_sh b ∧ wk_sh b ≤ 12 := by
  unfold wk_sh
  rw [if_neg (by omega), if_pos (by omega)]
  omega
/-- the first instruction of a list, if it has numbers written with it -/
theorem wk.first {cb nt : Nat → Int32} {E m p : Nat} {st : List (Nat × Option Nat)} (h : wk cb nt E m p st) (h4 : 4 ≤ wk_sh ((cb p).toInt % 256)) : ∃ q : Nat, (nt p).toInt = q ∧ wk_op nt (wk_sh ((cb p).toInt % 256)) p q ∧ q < E := by
  cases m with
  | zero => exact False.elim h
  | succ m =>
    obtain ⟨q, a1, a2, a3, a4⟩ := h.2.2.2.2.2 h4
    exact ⟨q, a1, a2, a3⟩
section CK2
variable {S : Nat → Prop} {h0 h : xb_H} {md rd op ck cd nt im N rc rs : Nat} {ca : Nat → Nat} {rw it n : Nat → Nat} {vs : Nat → Nat → Int64} {cb ν iv : Nat → Int32} {bc bs : Nat} {Qt : String → xb_H → Nat → Nat → Prop}
theorem ck_checkExpression {Qr : xb_H → Nat → Nat → Prop} {x1 x2 : Int32} {p e b : Nat} (hT : ck_T S h0 md rd op ck ca rc rs Qt) (hG : ck_G S h0 h md rd op ck cd nt im N ca rw it n vs cb ν iv rc rs bc bs)
    (hv : ∀ i : Nat, (i : Int) < (iv 3).toInt → 4 * i + 4 ≤ n 5 ∧ 124 ≤ (vs 5 (4 * i + 1)).toInt ∧ (vs 5 (4 * i + 1)).toInt ≤ 127 ∧ ((vs 5 (4 * i + 2)).toInt = 0 ∨ (vs 5 (4 * i + 2)).toInt = 1)) (hby : ∀ j, -128 ≤ (cb j).toInt ∧ (cb j).toInt ≤ 127)
    (hp : x1.toInt = p) (hm : mex cb ν b p e) (hb : b ≤ N) (hQ : ck_ex N cb ν (vs 5) (iv 3).toInt p x2.toInt → Qr h bc bs) : w_Checker_checkExpression ck x1 x2 h bc bs Qr Qt := by
  obtain ⟨p', m, e1, e2, e3, e4⟩ := hm
  have ep : p' = p := by omega
  subst ep
  obtain ⟨⟨M1, M2, M3, M4, M5⟩, ⟨M6, M7, M8, M9⟩, -, ⟨M10, M11, M12, M13⟩, MN⟩ := hG.M
  have c0 : x1.toNatClampNeg = p' := by rw [z_cl, hp]; omega
  have ex1 : (x1 + 1).toInt = p' + 1 := by rw [z_add, hp]; simp only [Int32.reduceToInt]; omega
  have c1 : (x1 + 1).toNatClampNeg = p' + 1 := by rw [z_cl, ex1]; omega
  have hy := hby p'
  -- the end behind the first instruction
  have L154 : 4 ≤ wk_sh ((cb p').toInt % 256) → (p' + 2 < N → Qr h bc bs) → w_Checker_checkExpression_L154 Qr Qt ck x1 h bc bs := by
    intro h4 hq
    obtain ⟨q, q1, ⟨q2, -⟩, q3⟩ := e4.first h4
    unfold w_Checker_checkExpression_L154 w_Checker_checkExpression_L185
    refine ⟨hG.kck, nt, hG.2.2.1.2.2, M7, by rw [z_in, hp, M8]; omega, fun v5 e5 => ⟨cd, hG.2.2.1.2.1, M3, ?_, fun _ => hq (by omega), fun _ => ⟨md, hG.rmd, hG.kmd, hG.fl hT⟩⟩⟩
    rw [e5, c0, M9, z_in, q1, M4]
    omega
  have L144 : w_Checker_checkExpression_L144 Qr Qt ck x1 h bc bs := ⟨hG.kck, md, hG.rmd, hG.kmd, hG.fl hT⟩
  unfold w_Checker_checkExpression
  refine ⟨hG.kck, cd, hG.2.2.1.2.1, M3, by rw [z_in, hp, M4]; omega, fun v5 e5 => ?_⟩
  rw [c0, M5] at e5
  subst e5
  refine ⟨fun _ => ⟨fun _ => L144, fun g1 => ⟨fun _ => L144, fun g2 => ⟨fun g3 => ?_, fun _ => ⟨md, hG.rmd, hG.kmd, hG.fl hT⟩⟩⟩⟩, fun g => ?_⟩
  · rw [z_lt] at g1 g2
    rw [z_eq, z_sub, z_sub] at g3
    simp only [Int32.reduceToInt] at g1 g2 g3
    have hs := wk_shc (b := (cb p').toInt % 256) (by omega) (by omega)
    exact L154 (by omega) (fun hN => hQ ⟨hN, .inr ⟨by omega, by omega, by omega⟩⟩)
  · rw [z_eq] at g
    simp only [Int32.reduceToInt] at g
    have hs := wk_sh4 (b := (cb p').toInt % 256) (by omega)
    obtain ⟨q, q1, ⟨q2, -⟩, q3⟩ := e4.first (by omega)
    refine ⟨nt, hG.2.2.1.2.2, M7, by rw [z_in, ex1, M8]; omega, fun v17 e17 => ⟨md, hG.rmd, hG.kmd, im, M10, M11, by rw [M12, z_in]; decide, ?_⟩⟩
    rw [c1, M9] at e17
    subst e17
    rw [M13]
    refine sp_isThere (fun r24 e24 _ => ⟨fun g2 => ?_, fun _ => ⟨md, hG.rmd, hG.kmd, hG.fl hT⟩⟩)
    rcases e24 with ⟨f1, -⟩ | ⟨-, f2, f3⟩
    · exact absurd f1 g2
    rw [Z_of32] at f2 f3
    obtain ⟨i, hi⟩ : ∃ i : Nat, (ν (p' + 1)).toInt = i := ⟨(ν (p' + 1)).toInt.toNat, by omega⟩
    obtain ⟨w1, w2, w3, w4⟩ := hv i (by omega)
    unfold w_Checker_checkExpression_L51
    refine ⟨hG.kck, md, hG.rmd, hG.kmd, rw 5, hG.M.row (by omega), hG.M.krow (by omega), md_at (c := 4) hG.M (i := i) (j := 2) (by omega) rfl hi rfl (by omega) w1 (fun r7 e7 _ => ⟨fun _ => ?_, fun _ => ⟨md, hG.rmd, hG.kmd, hG.fl hT⟩⟩)⟩
    unfold w_Checker_checkExpression_L78 w_Checker_checkExpression_L105
    refine ⟨hG.kck, md, hG.rmd, hG.kmd, rw 5, hG.M.row (by omega), hG.M.krow (by omega), md_at (c := 4) hG.M (i := i) (j := 1) (by omega) rfl hi rfl (by omega) w1 (fun r8 e8 _ => ⟨fun g8 => ?_, fun _ => ⟨md, hG.rmd, hG.kmd, hG.fl hT⟩⟩)⟩
    rw [z_eq, e8] at g8
    exact L154 (by omega) (fun hN => hQ ⟨hN, .inl ⟨g, i, hi, by omega, by omega⟩⟩)
/-- what the reader's lines say of the variables that come from elsewhere -/
theorem md_K.vars {b a : Nat} (hI : md_K N cb n vs ν iv b a) (hq : md_Q n iv) (i : Nat) (hi : (i : Int) < (iv 3).toInt) : 4 * i + 4 ≤ n 5 ∧ 124 ≤ (vs 5 (4 * i + 1)).toInt ∧ (vs 5 (4 * i + 1)).toInt ≤ 127 ∧ ((vs 5 (4 * i + 2)).toInt = 0 ∨ (vs 5 (4 * i + 2)).toInt = 1) := by
  obtain ⟨en, c0, c1, c2, c3, c4, c5, -⟩ := hI
  have h4 := hq.2.2.2
  obtain ⟨p, p9⟩ := c5.at (by omega) (i := i) (by omega)
  dsimp only [mp5] at p
  obtain ⟨p0, p1, p2, p3, p4, -⟩ := p
  exact ⟨p9, p2, p3, p4⟩
theorem ck_checkImports {Qr : xb_H → Nat → Nat → Prop} {b a : Nat} (hT : ck_T S h0 md rd op ck ca rc rs Qt) (hG : ck_G S h0 h md rd op ck cd nt im N ca rw it n vs cb ν iv rc rs bc bs) (hI : md_K N cb n vs ν iv b a) (ha : a ≤ N) (hq : md_Q n iv)
    (hQ : (∀ i, i < n 1 / 7 → ((vs 1 (7 * i + 1)).toInt = 0 → ∃ f : Nat, (vs 1 (7 * i + 2)).toInt = f ∧ 0 ≤ (vs 2 (2 * f + 1)).toInt ∧ (vs 2 (2 * f + 1)).toInt < (n 0 / 5 : Nat)) ∧ ((vs 1 (7 * i + 1)).toInt = 1 → (vs 1 (7 * i + 2)).toInt = 0) ∧ ((vs 1 (7 * i + 1)).toInt = 2 → (vs 1 (7 * i + 2)).toInt = 0 ∧ (vs 4 1).toInt ≤ 65536 ∧ (vs 4 2).toInt ≤ 65536 ∧ ((vs 4 2).toInt = -1 ∨ (vs 4 1).toInt ≤ (vs 4 2).toInt))) → Qr h bc bs) : w_Checker_checkImports ck h bc bs Qr Qt := by
  have hN := hG.M.2.2.2.2
  have hn1 := hI.nk (k := 1) (by omega)
  have hcn := hI.cnt
  obtain ⟨en, c0, c1, -⟩ := id hI
  have hmono : ∀ (κ : Int) (i m : Nat), i < m → (vs 1 (7 * i + 1)).toInt = κ → mcnt (vs 1) κ i < mcnt (vs 1) κ m := by
    intro κ i m
    induction m with
    | zero => intro h1; omega
    | succ m ih =>
      intro h1 h2
      rw [show mcnt (vs 1) κ (m + 1) = mcnt (vs 1) κ m + (if (vs 1 (7 * m + 1)).toInt = κ then 1 else 0) from rfl]
      by_cases e : i = m
      · subst e
        rw [if_pos h2]
        omega
      · have := ih (by omega) h2
        split <;> omega
  have key : ∀ (m : Nat) (x : Int32) (i : Nat), x.toInt = i → i ≤ n 1 / 7 → n 1 / 7 - i ≤ m → (∀ k, k < i → ((vs 1 (7 * k + 1)).toInt = 0 → ∃ f : Nat, (vs 1 (7 * k + 2)).toInt = f ∧ 0 ≤ (vs 2 (2 * f + 1)).toInt ∧ (vs 2 (2 * f + 1)).toInt < (n 0 / 5 : Nat)) ∧ ((vs 1 (7 * k + 1)).toInt = 1 → (vs 1 (7 * k + 2)).toInt = 0) ∧ ((vs 1 (7 * k + 1)).toInt = 2 → (vs 1 (7 * k + 2)).toInt = 0 ∧ (vs 4 1).toInt ≤ 65536 ∧ (vs 4 2).toInt ≤ 65536 ∧ ((vs 4 2).toInt = -1 ∨ (vs 4 1).toInt ≤ (vs 4 2).toInt))) → w_Checker_checkImports_L2 Qr Qt (m + 1) ck x h bc bs := by
    intro m
    induction m with
    | zero =>
      intro x i g1 g2 g3 g4
      unfold w_Checker_checkImports_L2
      refine ⟨hG.kck, md, hG.rmd, hG.kmd, rw 1, hG.M.row (by omega), hG.M.krow (by omega), md_lines (c := 7) hG.M (by omega) rfl (by omega) (fun r e _ => ⟨fun _ => hQ (fun k hk => g4 k (by omega)), fun e2 => ?_⟩)⟩
      rw [z_le, e, g1] at e2
      omega
    | succ m ih =>
      intro x i g1 g2 g3 g4
      unfold w_Checker_checkImports_L2
      refine ⟨hG.kck, md, hG.rmd, hG.kmd, rw 1, hG.M.row (by omega), hG.M.krow (by omega), md_lines (c := 7) hG.M (by omega) rfl (by omega) (fun r e _ => ⟨fun e2 => hQ (fun k hk => g4 k (by rw [z_le, e, g1] at e2; omega)), fun e2 => ?_⟩)⟩
      rw [z_le, e, g1] at e2
      obtain ⟨p, hi⟩ := c1.at (by omega) (i := i) (by omega)
      dsimp only [mp1] at p
      obtain ⟨p0, p1, p2, p3, p4, -⟩ := p
      have ex : (x + 1).toInt = (i + 1 : Nat) := by rw [z_add, g1]; simp only [Int32.reduceToInt]; omega
      obtain ⟨f, hf⟩ : ∃ f : Nat, (vs 1 (7 * i + 2)).toInt = f := ⟨mcnt (vs 1) (vs 1 (7 * i + 1)).toInt i, p4⟩
      obtain ⟨κ, hκ⟩ : ∃ κ : Nat, (vs 1 (7 * i + 1)).toInt = κ := ⟨(vs 1 (7 * i + 1)).toInt.toNat, by omega⟩
      have hfk : (f : Int) < (iv κ).toInt := by
        rw [hcn κ (by omega)]
        have := hmono κ i (n 1 / 7) (by omega) hκ
        rw [hκ] at p4
        omega
      refine ⟨md, hG.rmd, hG.kmd, rw 1, hG.M.row (by omega), hG.M.krow (by omega), md_at (c := 7) hG.M (i := i) (j := 2) (by omega) rfl g1 rfl (by omega) hi (fun r14 e14 _ => ⟨md, hG.rmd, hG.kmd, rw 1, hG.M.row (by omega), hG.M.krow (by omega), md_at (c := 7) hG.M (i := i) (j := 1) (by omega) rfl g1 rfl (by omega) hi (fun r20 e20 _ => ?_)⟩)⟩
      obtain ⟨q0, q1, q2, q3⟩ := hq
      have e14' : r14.toInt = f := by
        have hb : mcnt (vs 1) (vs 1 (7 * i + 1)).toInt i ≤ i := by
          have kk : ∀ (z : Int) (m : Nat), mcnt (vs 1) z m ≤ m := by
            intro z m
            induction m with
            | zero => exact Nat.le_refl 0
            | succ m ih => unfold mcnt; split <;> omega
          exact kk _ i
        rw [e14, hf]
        omega
      have e20' : r20.toInt = κ := by rw [e20, hκ]; omega
      have go : (((vs 1 (7 * i + 1)).toInt = 0 → ∃ f : Nat, (vs 1 (7 * i + 2)).toInt = f ∧ 0 ≤ (vs 2 (2 * f + 1)).toInt ∧ (vs 2 (2 * f + 1)).toInt < (n 0 / 5 : Nat)) ∧ ((vs 1 (7 * i + 1)).toInt = 1 → (vs 1 (7 * i + 2)).toInt = 0) ∧ ((vs 1 (7 * i + 1)).toInt = 2 → (vs 1 (7 * i + 2)).toInt = 0 ∧ (vs 4 1).toInt ≤ 65536 ∧ (vs 4 2).toInt ≤ 65536 ∧ ((vs 4 2).toInt = -1 ∨ (vs 4 1).toInt ≤ (vs 4 2).toInt))) → w_Checker_checkImports_L112 (w_Checker_checkImports_L2 Qr Qt (m + 1)) Qr Qt ck x h bc bs := by
        have b1 : i + 1 ≤ n 1 / 7 := by omega
        have b2 : n 1 / 7 - (i + 1) ≤ m := by omega
        intro hh
        refine ih (x + 1) (i + 1) ex b1 b2 (fun k hk => ?_)
        by_cases ek : k = i
        · subst ek
          exact hh
        · exact g4 k (by omega)
      refine ⟨fun k0 => ?_, fun k1 => ⟨md, hG.rmd, hG.kmd, rw 3, hG.M.row (by omega), ?_⟩, fun k2 => ⟨md, hG.rmd, hG.kmd, rw 4, hG.M.row (by omega), ?_⟩, fun k0 k1 k2 => ?_⟩
      · rw [z_eq, e20'] at k0
        simp only [Int32.reduceToInt] at k0
        obtain rfl : κ = 0 := by omega
        refine ck_checkFunction (i := f) hT hG e14' (by omega) (fun a1 a2 _ => go ⟨fun _ => ⟨f, hf, a1, a2⟩, fun e9 => by omega, fun e9 => by omega⟩)
      · rw [z_eq, e20'] at k1
        simp only [Int32.reduceToInt] at k1
        obtain rfl : κ = 1 := by omega
        exact ck_checkLimits (i := f) hT hG (by omega) rfl e14' (by omega) (fun a1 _ _ _ _ => go ⟨fun e9 => by omega, fun _ => by omega, fun e9 => by omega⟩)
      · rw [z_eq, e20'] at k2
        simp only [Int32.reduceToInt] at k2
        obtain rfl : κ = 2 := by omega
        refine ck_checkLimits (i := f) hT hG (by omega) rfl e14' (by omega) (fun a1 a2 a3 a4 _ => go ⟨fun e9 => by omega, fun e9 => by omega, fun _ => ⟨by omega, ?_, ?_, a4⟩⟩)
        · simp only [Int64.reduceToInt] at a2
          exact a2
        · simp only [Int64.reduceToInt] at a3
          exact a3
      · rw [z_eq, e20'] at k0 k1 k2
        simp only [Int32.reduceToInt] at k0 k1 k2
        exact go ⟨fun e9 => by omega, fun e9 => by omega, fun e9 => by omega⟩
  unfold w_Checker_checkImports
  exact ⟨n 1 / 7 + 1, key _ 0 0 rfl (by omega) (by omega) (fun k hk => by omega)⟩
end CK2
