-- equality: the class's checker, exact: what is ahead of the bodies
/-- a module by where its bytes begin, how many there are, the bytes, and where its entries stand -/
def zk (b N : Nat) (cA : Nat → Int32) (S : Sm) : zM := (b, b + N, cA, S.1, S.2)
/-- the fault f, if there is one, is C -/
def hit (C f : Option (Nat × Nat)) : Prop := ∀ Fl, f = some Fl → C = some Fl
def ckT (S : Nat → Prop) (h0 : xb_H) (md rd op ck : Nat) (ca : Nat → Nat) (rc rs b : Nat) (C : Option (Nat × Nat)) (Qt : String → xb_H → Nat → Nat → Prop) : Prop := ∀ (h : xb_H) (bc bs : Nat), ck_X S h0 h md rd op ck ca → rc ≤ bc → rs ≤ bs → (∃ Fl : Nat × Nat, C = some Fl ∧ (xb_i h md 17).toInt = Fl.1 ∧ (xb_i h md 18).toInt + b = Fl.2) → Qt "java/lang/IllegalArgumentException" h bc bs
/-- the place of a function's line -/
def fpl (D : zM) (f : Nat) : Nat := if f < iM D 0 then qp D 2 (ikx D 0 (qt D 2) f) else qp D 3 (f - iM D 0)
section CC1
variable {C f g : Option (Nat × Nat)} {fn : Nat → Option (Nat × Nat)} {k N : Nat}
theorem hit.o1 (h : hit C (f.or g)) : hit C f := fun Fl e => h Fl (by rw [e]; rfl)
theorem hit.o2 (h : hit C (f.or g)) (hf : f = none) : hit C g := fun Fl e => h Fl (by rw [hf]; exact e)
theorem hit.sq (h : hit C (sqF fn N)) (hk : k < N) (h0 : sqF fn k = none) : hit C (fn k) := fun Fl e => h Fl (sqF_mo (k := k + 1) hk (by
  show (sqF fn k).or (fn k) = _
  rw [h0]
  exact e))
theorem sqF_s (h0 : sqF fn k = none) (h1 : fn k = none) : sqF fn (k + 1) = none := by
  show (sqF fn k).or (fn k) = _
  rw [h0]
  exact h1
end CC1
section CC2
variable {S : Nat → Prop} {h0 h : xb_H} {md rd op ck cd nt im N rc rs b : Nat} {ca : Nat → Nat} {rw it n : Nat → Nat} {vs : Nat → Nat → Int64} {cb cA ν iv : Nat → Int32} {bc bs : Nat} {Qt : String → xb_H → Nat → Nat → Prop} {C : Option (Nat × Nat)} {T : Sm} {s sa : Int32} {D : zM}
theorem cy_fail {x1 x2 : Int32} {c w : Nat} {Qr : xb_H → Nat → Nat → Prop} (hT : ckT S h0 md rd op ck ca rc rs b C Qt) (hG : ck_G S h0 h md rd op ck cd nt im N ca rw it n vs cb ν iv rc rs bc bs) (hC : C = some (c, w)) (h1 : x1.toInt = c) (h2 : x2.toInt + b = w) : w_StackModule_fail md x1 x2 h bc bs Qr Qt := by
  have hX := hG.1
  have hc := hG.2.2.2.1
  have hb := hG.2.2.2.2
  unfold w_StackModule_fail
  refine ⟨hX.2.2.1, fun h2' e2 h3 e3 => ⟨by omega, by omega, hT h3 _ _ ?_ (by omega) (by omega) ⟨(c, w), hC, ?_, ?_⟩⟩⟩
  · rw [e3, e2]
    exact hX.mdI.mdI
  · rw [e3, e2, xh_iI, if_pos rfl, xh_up, if_neg (by decide), xh_iI, if_pos rfl, xh_up, if_pos rfl]
    exact h1
  · rw [e3, xh_iI, if_pos rfl, xh_up, if_pos rfl]
    exact h2
theorem cV_lt {p : Nat} : cV cA p < 4294967296 := by
  unfold cV
  split
  · rename_i z e9
    have := rC_b (q := z.1) (x := z.2) e9
    omega
  · omega
theorem zk_ty (hE : eR cA ν b N T n vs iv s sa) (hD : D = zk b N cA T) {i : Nat} (hi : i < qt D 1) : (vs 0 (5 * i)).toInt + b = qp D 1 i ∧ (vs 0 (5 * i + 1)).toInt + b = tPa D i ∧ (vs 0 (5 * i + 2)).toInt = tPn D i ∧ (vs 0 (5 * i + 3)).toInt = tRn D i ∧ (vs 0 (5 * i + 4)).toInt = tRt D i := by
  subst hD
  exact hE.1.2 i hi
theorem zk_iv (hE : eR cA ν b N T n vs iv s sa) (hD : D = zk b N cA T) {κ : Nat} (hκ : κ < 4) : (iv κ).toInt = iM D κ := by
  subst hD
  exact hE.2.2.2.1 κ hκ
theorem zk_n0 (hE : eR cA ν b N T n vs iv s sa) (hD : D = zk b N cA T) : n 0 = 5 * qt D 1 := by
  subst hD
  exact hE.1.1
theorem zk_nI (hE : eR cA ν b N T n vs iv s sa) (hD : D = zk b N cA T) {κ : Nat} (hκ : κ < 4) : n (2 + κ) = imL κ * (iM D κ + qt D (3 + κ)) := by
  subst hD
  exact (hE.2.2.1 κ hκ).1
theorem zk_n2 (hE : eR cA ν b N T n vs iv s sa) (hD : D = zk b N cA T) : n 2 = 2 * (iM D 0 + qt D 3) := zk_nI hE hD (κ := 0) (by decide)
theorem zk_n3 (hE : eR cA ν b N T n vs iv s sa) (hD : D = zk b N cA T) : n 3 = 3 * (iM D 1 + qt D 4) := zk_nI hE hD (κ := 1) (by decide)
theorem zk_n4 (hE : eR cA ν b N T n vs iv s sa) (hD : D = zk b N cA T) : n 4 = 3 * (iM D 2 + qt D 5) := zk_nI hE hD (κ := 2) (by decide)
theorem zk_n5 (hE : eR cA ν b N T n vs iv s sa) (hD : D = zk b N cA T) : n 5 = 4 * (iM D 3 + qt D 6) := zk_nI hE hD (κ := 3) (by decide)
theorem zk_im (hE : eR cA ν b N T n vs iv s sa) (hD : D = zk b N cA T) {κ k : Nat} (hκ : κ < 4) (hk : k < qt D 2) (hd : (ub (qc D) (kpo D k)).toInt = κ) : epI cA b κ (qp D 2 k) (fun j => (vs (2 + κ) (imL κ * kcn (qc D) (qp D 2) κ k + j)).toInt) := by
  subst hD
  exact (hE.2.2.1 κ hκ).2.1 k hk hd
theorem zk_ow (hE : eR cA ν b N T n vs iv s sa) (hD : D = zk b N cA T) {κ k : Nat} (hκ : κ < 4) (hk : k < qt D (3 + κ)) : epO cA b κ (qp D (3 + κ) k) (fun j => (vs (2 + κ) (imL κ * (iM D κ + k) + j)).toInt) := by
  subst hD
  exact (hE.2.2.1 κ hκ).2.2 k hk
theorem zk_fn (hE : eR cA ν b N T n vs iv s sa) (hD : D = zk b N cA T) {i : Nat} (hi : i < iM D 0 + qt D 3) : (vs 2 (2 * i)).toInt + b = fpl D i ∧ (vs 2 (2 * i + 1)).toInt = fty D i := by
  have hqc : qc D = cA := by rw [hD]; rfl
  unfold fpl fty fpo
  by_cases h9 : i < iM D 0
  · obtain ⟨g1, g2, g3⟩ := ikx_f (D := D) (κ := 0) (n := qt D 2) h9
    have := (zk_im hE hD (κ := 0) (by decide) g1 g2).1 rfl
    rw [g3] at this
    rw [if_pos h9, if_pos h9, hqc]
    have hkp : kpo D (ikx D 0 (qt D 2) i) = qN cA (qN cA (qp D 2 (ikx D 0 (qt D 2) i))) := by unfold kpo; rw [hqc]
    rw [hkp]
    exact this
  · have := (zk_ow hE hD (κ := 0) (k := i - iM D 0) (by decide) (by show i - iM D 0 < qt D 3; omega)).1 rfl
    rw [show iM D 0 + (i - iM D 0) = i by omega] at this
    rw [if_neg h9, if_neg h9, hqc]
    exact this
theorem zk_va (hE : eR cA ν b N T n vs iv s sa) (hD : D = zk b N cA T) {i : Nat} (hi : i < iM D 3 + qt D 6) : (vs 5 (4 * i + 1)).toInt = vty D i ∧ (vs 5 (4 * i + 2)).toInt = vmu D i := by
  have hqc : qc D = cA := by rw [hD]; rfl
  unfold vty vmu vpo
  by_cases h9 : i < iM D 3
  · obtain ⟨g1, g2, g3⟩ := ikx_f (D := D) (κ := 3) (n := qt D 2) h9
    have := (zk_im hE hD (κ := 3) (by decide) g1 g2).2.2.2 rfl
    rw [g3] at this
    rw [if_pos h9, hqc]
    have hkp : kpo D (ikx D 3 (qt D 2) i) = qN cA (qN cA (qp D 2 (ikx D 3 (qt D 2) i))) := by unfold kpo; rw [hqc]
    rw [hkp]
    exact ⟨this.2.1, this.2.2.1⟩
  · have := (zk_ow hE hD (κ := 3) (k := i - iM D 3) (by decide) (by show i - iM D 3 < qt D 6; omega)).2.2.2 rfl
    rw [show iM D 3 + (i - iM D 3) = i by omega] at this
    rw [if_neg h9, hqc]
    exact ⟨this.2.1, this.2.2.1⟩
theorem cy_checkTypes {Qr : xb_H → Nat → Nat → Prop} (hT : ckT S h0 md rd op ck ca rc rs b C Qt) (hG : ck_G S h0 h md rd op ck cd nt im N ca rw it n vs cb ν iv rc rs bc bs) (hE : eR cA ν b N T n vs iv s sa) (hD : D = zk b N cA T) (hL : xr_L 5 (mp0 N cb) (n 0) (vs 0)) (hn : n 0 ≤ 2 * N) (hC : hit C (sqF (ckTy D) (qt D 1)))
    (hQ : (∀ i, i < n 0 / 5 → (vs 0 (5 * i + 3)).toInt ≤ 1) → sqF (ckTy D) (qt D 1) = none → Qr h bc bs) : w_Checker_checkTypes ck h bc bs Qr Qt := by
  have hN := hG.M.2.2.2.2
  have en := zk_n0 hE hD
  have key : ∀ (m : Nat) (x : Int32) (i : Nat), x.toInt = i → i ≤ n 0 / 5 → n 0 / 5 - i ≤ m → (∀ k, k < i → (vs 0 (5 * k + 3)).toInt ≤ 1) → sqF (ckTy D) i = none → w_Checker_checkTypes_L2 Qr Qt (m + 1) ck x h bc bs := by
    intro m
    induction m with
    | zero =>
      intro x i g1 g2 g3 g4 g5
      have ei : i = qt D 1 := by omega
      unfold w_Checker_checkTypes_L2
      refine ⟨hG.kck, md, hG.rmd, hG.kmd, rw 0, hG.M.row (by omega), hG.M.krow (by omega), md_lines (c := 5) hG.M (by omega) rfl (by omega) (fun r e _ => ⟨fun _ => hQ (fun k hk => g4 k (by omega)) (by rw [← ei]; exact g5), fun e2 => ?_⟩)⟩
      rw [z_le, e, g1] at e2
      omega
    | succ m ih =>
      intro x i g1 g2 g3 g4 g5
      unfold w_Checker_checkTypes_L2
      refine ⟨hG.kck, md, hG.rmd, hG.kmd, rw 0, hG.M.row (by omega), hG.M.krow (by omega), md_lines (c := 5) hG.M (by omega) rfl (by omega) (fun r e _ => ⟨fun e2 => hQ (fun k hk => g4 k (by rw [z_le, e, g1] at e2; omega)) (by rw [z_le, e, g1] at e2; rw [show qt D 1 = i by omega]; exact g5), fun e2 => ?_⟩)⟩
      rw [z_le, e, g1] at e2
      obtain ⟨p, hi⟩ := hL.at (by omega) (i := i) (by omega)
      dsimp only [mp0] at p
      obtain ⟨p0, p1, p2, p3, p4, p5, p6, -⟩ := p
      obtain ⟨t0, t1, t2, t3, t4⟩ := zk_ty hE hD (i := i) (by omega)
      refine ⟨md, hG.rmd, hG.kmd, rw 0, hG.M.row (by omega), hG.M.krow (by omega), md_at (c := 5) hG.M (i := i) (j := 3) (by omega) rfl g1 rfl (by omega) hi (fun r14 e14 _ => ⟨fun e3 => ?_, fun e3 => ⟨md, hG.rmd, md, hG.rmd, hG.kmd, rw 0, hG.M.row (by omega), hG.M.krow (by omega), md_at (c := 5) hG.M (i := i) (j := 0) (by omega) rfl g1 rfl (by omega) hi (fun r15 e15 _ => ⟨hG.kmd, cy_fail (c := 28) (w := qp D 1 i) hT hG (hC.sq (by omega) g5 _ ?_) rfl ?_⟩)⟩⟩)⟩
      · rw [z_le, e14] at e3
        simp only [Int32.reduceToInt] at e3
        have ex : (x + 1).toInt = (i + 1 : Nat) := by rw [z_add, g1]; simp only [Int32.reduceToInt]; omega
        refine ih (x + 1) (i + 1) ex (by omega) (by omega) (fun k hk => ?_) (sqF_s g5 ?_)
        · by_cases ek : k = i
          · subst ek
            omega
          · exact g4 k (by omega)
        · unfold ckTy
          rw [if_neg (by omega)]
      · rw [z_le, e14] at e3
        simp only [Int32.reduceToInt] at e3
        unfold ckTy
        rw [if_pos (by omega)]
      · rw [e15]
        simp only [Nat.add_zero] at p0 p1 ⊢
        omega
  unfold w_Checker_checkTypes
  exact ⟨n 0 / 5 + 1, key _ 0 0 rfl (by omega) (by omega) (fun k hk => by omega) rfl⟩
theorem cy_checkFunction {Qr : xb_H → Nat → Nat → Prop} {x : Int32} {i p ty : Nat} {fo : Option (Nat × Nat)} (hT : ckT S h0 md rd op ck ca rc rs b C Qt) (hG : ck_G S h0 h md rd op ck cd nt im N ca rw it n vs cb ν iv rc rs bc bs) (hx : x.toInt = i) (hi : 2 * i + 2 ≤ n 2) (hp : (vs 2 (2 * i)).toInt + b = p) (hpb : p < b + N) (hpb0 : b ≤ p) (hN : N ≤ 65536) (hy : (vs 2 (2 * i + 1)).toInt = ty) (hf : fo = if n 0 / 5 ≤ ty then some (20, p) else none) (hC : hit C fo)
    (hQ : 0 ≤ (vs 2 (2 * i + 1)).toInt → (vs 2 (2 * i + 1)).toInt < (n 0 / 5 : Nat) → fo = none → Qr h bc bs) : w_Checker_checkFunction ck x h bc bs Qr Qt := by
  unfold w_Checker_checkFunction w_Checker_checkFunction_L49
  refine ⟨hG.kck, md, hG.rmd, hG.kmd, rw 2, hG.M.row (by omega), hG.M.krow (by omega), md_longAt (c := 2) hG.M (i := i) (j := 1) (by omega) rfl hx rfl (by omega) hi (fun _ => ⟨md, hG.rmd, hG.kmd, rw 0, hG.M.row (by omega), hG.M.krow (by omega), md_lines (c := 5) hG.M (by omega) rfl (by omega) (fun r13 e13 _ => sp_isThere (fun r15 e15 _ => ⟨fun e => ?_, fun e => ⟨md, hG.rmd, md, hG.rmd, hG.kmd, rw 2, hG.M.row (by omega), hG.M.krow (by omega), md_at (c := 2) hG.M (i := i) (j := 0) (by omega) rfl hx rfl (by omega) hi (fun r16 e16 _ => ⟨hG.kmd, cy_fail (c := 20) (w := p) hT hG (hC _ ?_) rfl ?_⟩)⟩⟩))⟩)⟩
  · rcases e15 with ⟨e1, -⟩ | ⟨-, e2, e3⟩
    · exact absurd e1 e
    · rw [e13] at e3
      exact hQ e2 e3 (by rw [hf, if_neg (by omega)])
  · rcases e15 with ⟨-, e2⟩ | ⟨e1, -⟩
    · rw [e13] at e2
      rw [hf, if_pos (by omega)]
    · rw [e] at e1
      exact absurd e1 (by decide)
  · rw [e16]
    simp only [Nat.add_zero]
    omega
theorem cy_checkLimits {Qr : xb_H → Nat → Nat → Prop} {x : Int32} {x3 : Int64} {i k p lp : Nat} {om : Bool} (hT : ckT S h0 md rd op ck ca rc rs b C Qt) (hG : ck_G S h0 h md rd op ck cd nt im N ca rw it n vs cb ν iv rc rs bc bs) (hk : k < 12) (hc : xr_c k = 3) (hx : x.toInt = i) (hi : 3 * i + 3 ≤ n k) (hl : epL cA b p lp (fun j => (vs k (3 * i + j)).toInt)) (hpb : p < b + N) (hpb0 : b ≤ p) (hN : N ≤ 65536) (h3 : (om = true ∧ x3.toInt = 65536) ∨ (om = false ∧ x3.toInt = 4294967295)) (hC : hit C (lmF cA om lp p (decide (0 < i))))
    (hQ : i = 0 → (vs k 1).toInt ≤ x3.toInt → (vs k 2).toInt ≤ x3.toInt → ((vs k 2).toInt = -1 ∨ (vs k 1).toInt ≤ (vs k 2).toInt) → lmF cA om lp p (decide (0 < i)) = none → Qr h bc bs) : w_Checker_checkLimits ck (rw k) x x3 h bc bs Qr Qt := by
  obtain ⟨l0, l1, l2⟩ := hl
  simp only [Nat.add_zero] at l0 l1 l2
  have c1 := cV_lt (cA := cA) (p := lp + 1)
  have c2 := cV_lt (cA := cA) (p := cE cA (lp + 1))
  have bad : ¬ ((vs k (3 * i + 1)).toInt ≤ x3.toInt ∧ (vs k (3 * i + 2)).toInt ≤ x3.toInt ∧ ((vs k (3 * i + 2)).toInt = -1 ∨ (vs k (3 * i + 1)).toInt ≤ (vs k (3 * i + 2)).toInt)) → lmF cA om lp p (decide (0 < i)) = some (25, p) := fun h9 => by
    unfold lmF
    refine if_pos ?_
    rw [l1, l2] at h9
    by_cases h1 : ub cA lp = 1
    · rw [if_pos h1] at h9
      rcases h3 with ⟨a1, a2⟩ | ⟨a1, a2⟩
      · rw [a2] at h9
        by_cases h8 : cV cA (cE cA (lp + 1)) < cV cA (lp + 1)
        · exact .inl ⟨h1, h8⟩
        · refine .inr ⟨a1, ?_⟩
          by_cases h7 : 65536 < cV cA (lp + 1)
          · exact .inl h7
          · exact .inr ⟨h1, by omega⟩
      · rw [a2] at h9
        exact .inl ⟨h1, by omega⟩
    · rw [if_neg h1] at h9
      rcases h3 with ⟨a1, a2⟩ | ⟨a1, a2⟩
      · rw [a2] at h9
        exact .inr ⟨a1, .inl (by omega)⟩
      · rw [a2] at h9
        omega
  have good : (vs k (3 * i + 1)).toInt ≤ x3.toInt → (vs k (3 * i + 2)).toInt ≤ x3.toInt → ((vs k (3 * i + 2)).toInt = -1 ∨ (vs k (3 * i + 1)).toInt ≤ (vs k (3 * i + 2)).toInt) → lmF cA om lp p (decide (0 < i)) = if 0 < i then some (27, p) else none := fun a1 a2 a3 => by
    unfold lmF
    rw [if_neg ?_]
    · by_cases hi0 : 0 < i
      · rw [if_pos hi0, if_pos (decide_eq_true hi0)]
      · rw [if_neg hi0, if_neg (by rw [decide_eq_false hi0]; decide)]
    · rw [l1] at a1 a3
      rw [l2] at a2 a3
      rintro (⟨h1, h2⟩ | ⟨h1, h2⟩)
      · rw [if_pos h1] at a3
        omega
      · rcases h3 with ⟨b1, b2⟩ | ⟨b1, b2⟩
        · rw [b2] at a1 a2
          rcases h2 with h2 | ⟨h2, h4⟩
          · omega
          · rw [if_pos h2] at a2
            omega
        · rw [b1] at h1
          cases h1
  unfold w_Checker_checkLimits
  have f55 : ∀ y : Int32, y.toInt + b = p → ¬ ((vs k (3 * i + 1)).toInt ≤ x3.toInt ∧ (vs k (3 * i + 2)).toInt ≤ x3.toInt ∧ ((vs k (3 * i + 2)).toInt = -1 ∨ (vs k (3 * i + 1)).toInt ≤ (vs k (3 * i + 2)).toInt)) → w_Checker_checkLimits_L55 Qr Qt ck x y h bc bs := fun y hy h9 => ⟨hG.kck, md, hG.rmd, hG.kmd, cy_fail (c := 25) (w := p) hT hG (hC _ (bad h9)) rfl hy⟩
  have f66 : ∀ y : Int32, y.toInt + b = p → (vs k (3 * i + 1)).toInt ≤ x3.toInt → (vs k (3 * i + 2)).toInt ≤ x3.toInt → ((vs k (3 * i + 2)).toInt = -1 ∨ (vs k (3 * i + 1)).toInt ≤ (vs k (3 * i + 2)).toInt) → w_Checker_checkLimits_L66 Qr Qt ck x y h bc bs := by
    intro y hy a1 a2 a3
    have gd' := good a1 a2 a3
    unfold w_Checker_checkLimits_L66 w_Checker_checkLimits_L81
    refine ⟨fun e => ?_, fun e => ⟨hG.kck, md, hG.rmd, hG.kmd, cy_fail (c := 27) (w := p) hT hG (hC _ (by rw [gd', if_pos (by rw [z_le, hx] at e; simp only [Int32.reduceToInt] at e; omega)])) rfl hy⟩⟩
    rw [z_le, hx] at e
    simp only [Int32.reduceToInt] at e
    have ei : i = 0 := by omega
    subst ei
    exact hQ rfl a1 a2 a3 (by rw [gd', if_neg (by omega)])
  refine ⟨hG.M.krow hk, md_longAt (c := 3) hG.M (i := i) (j := 1) hk hc hx rfl (by omega) hi (fun _ => md_longAt (c := 3) hG.M (i := i) (j := 2) hk hc hx rfl (by omega) hi (fun _ => md_at (c := 3) hG.M (i := i) (j := 0) hk hc hx rfl (by omega) hi (fun r7 e7 _ => ?_)))⟩
  have hy7 : r7.toInt + b = p := by
    rw [e7]
    simp only [Nat.add_zero]
    omega
  refine ⟨fun e1 => f55 r7 hy7 (fun h9 => by rw [Z_lt] at e1; omega), fun e1 => ⟨fun e2 => f55 r7 hy7 (fun h9 => by rw [Z_lt] at e2; omega), fun e2 => ⟨fun e3 => ?_, fun e3 => ⟨fun e4 => ?_, fun e4 => f55 r7 hy7 (fun h9 => ?_)⟩⟩⟩⟩
  · rw [Z_lt] at e1 e2
    rw [Z_eq] at e3
    exact f66 r7 hy7 (by omega) (by omega) (.inl e3)
  · rw [Z_lt] at e1 e2
    rw [Z_le] at e4
    exact f66 r7 hy7 (by omega) (by omega) (.inr e4)
  · rw [Z_eq] at e3
    rw [Z_le] at e4
    exact h9.2.2.elim e3 (fun h8 => by omega)
end CC2
