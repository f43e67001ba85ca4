-- types of a module; the checker: exports, the start, elements, data
section CK4
variable {S : Nat → Prop} {h0 h : xb_H} {md rd op ck cd nt im N rc rs : Nat} {ca : Nat → Nat} {rw it n : Nat → Nat} {vs : Nat → Nat → Int64} {cb ν iv : Nat → Int32} {bc bs : Nat} {Qt : String → xb_H → Nat → Nat → Prop}
theorem md_typeOf {Qr : Int32 → xb_H → Prop} {x : Int32} {i : Nat} (hM : md_M h md cd nt im N rw it n vs cb ν iv) (hx : x.toInt = i) (hi : 2 * i + 2 ≤ n 2) (h1 : 0 ≤ (vs 2 (2 * i + 1)).toInt) (h2 : (vs 2 (2 * i + 1)).toInt < 2147483648)
    (hQ : ∀ r : Int32, r.toInt = (vs 2 (2 * i + 1)).toInt → Qr r h) : w_StackModule_typeOf md x h Qr := by
  unfold w_StackModule_typeOf
  exact ⟨hM.k, rw 2, hM.row (by omega), hM.krow (by omega), md_at (c := 2) hM (i := i) (j := 1) (by omega) rfl hx rfl (by omega) hi (fun r e _ => hQ r (by omega))⟩
theorem md_parameters {Qr : Int32 → xb_H → Prop} {x : Int32} {i : Nat} (hM : md_M h md cd nt im N rw it n vs cb ν iv) (hL : xr_L 5 (mp0 N cb) (n 0) (vs 0)) (hx : x.toInt = i) (hi : i < n 0 / 5)
    (hQ : ∀ r : Int32, r.toInt = (vs 0 (5 * i + 2)).toInt → 0 ≤ r.toInt → r.toInt ≤ N → Qr r h) : w_StackModule_parameters md x h Qr := by
  have hN := hM.2.2.2.2
  obtain ⟨p, hi2⟩ := hL.at (by omega) hi
  dsimp only [mp0] at p
  obtain ⟨p0, p1, p2, p3, p4, -⟩ := p
  unfold w_StackModule_parameters
  exact ⟨hM.k, rw 0, hM.row (by omega), hM.krow (by omega), md_at (c := 5) hM (i := i) (j := 2) (by omega) rfl hx rfl (by omega) hi2 (fun r e _ => hQ r (by omega) (by omega) (by omega))⟩
theorem md_resultType {Qr : Int32 → xb_H → Prop} {x : Int32} {i : Nat} (hM : md_M h md cd nt im N rw it n vs cb ν iv) (hL : xr_L 5 (mp0 N cb) (n 0) (vs 0)) (hx : x.toInt = i) (hi : i < n 0 / 5)
    (hQ : ∀ r : Int32, r.toInt = (vs 0 (5 * i + 4)).toInt → (r.toInt = 64 ∨ 124 ≤ r.toInt ∧ r.toInt ≤ 127) → Qr r h) : w_StackModule_resultType md x h Qr := by
  obtain ⟨p, hi2⟩ := hL.at (by omega) hi
  dsimp only [mp0] at p
  obtain ⟨p0, p1, p2, p3, p4, p5, p6, p7, p8, -⟩ := p
  unfold w_StackModule_resultType
  exact ⟨hM.k, rw 0, hM.row (by omega), hM.krow (by omega), md_at (c := 5) hM (i := i) (j := 4) (by omega) rfl hx rfl (by omega) hi2 (fun r e _ => hQ r (by omega) (by omega))⟩
theorem md_hasResult {Qr : Int32 → xb_H → Prop} {x : Int32} {i : Nat} (hM : md_M h md cd nt im N rw it n vs cb ν iv) (hL : xr_L 5 (mp0 N cb) (n 0) (vs 0)) (hx : x.toInt = i) (hi : i < n 0 / 5)
    (hQ : ∀ r : Int32, (r = 0 ∧ (vs 0 (5 * i + 4)).toInt = 64) ∨ (r = 1 ∧ (vs 0 (5 * i + 4)).toInt ≠ 64) → Qr r h) : w_StackModule_hasResult md x h Qr := by
  obtain ⟨p, hi2⟩ := hL.at (by omega) hi
  dsimp only [mp0] at p
  obtain ⟨p0, p1, p2, p3, p4, p5, p6, p7, p8, -⟩ := p
  unfold w_StackModule_hasResult w_StackModule_hasResult_L19
  refine ⟨hM.k, rw 0, hM.row (by omega), hM.krow (by omega), md_at (c := 5) hM (i := i) (j := 4) (by omega) rfl hx rfl (by omega) hi2 (fun r e _ => ⟨fun e1 => ⟨.inl rfl, hQ 0 (.inl ⟨rfl, ?_⟩)⟩, fun e1 => ⟨.inr rfl, hQ 1 (.inr ⟨rfl, ?_⟩)⟩⟩)⟩
  · rw [z_eq, e] at e1
    simp only [Int32.reduceToInt] at e1
    omega
  · rw [z_eq, e] at e1
    simp only [Int32.reduceToInt] at e1
    omega
theorem md_parameterType {Qr : Int32 → xb_H → Prop} {x y : Int32} {i j : Nat} (hM : md_M h md cd nt im N rw it n vs cb ν iv) (hL : xr_L 5 (mp0 N cb) (n 0) (vs 0)) (hx : x.toInt = i) (hi : i < n 0 / 5) (hy : y.toInt = j) (hj : (j : Int) < (vs 0 (5 * i + 2)).toInt)
    (hQ : ∀ q : Nat, (q : Int) = (vs 0 (5 * i + 1)).toInt + j → 124 ≤ (cb q).toInt → (cb q).toInt ≤ 127 → Qr (cb q) h) : w_StackModule_parameterType md x y h Qr := by
  have hN := hM.2.2.2.2
  obtain ⟨p, hi2⟩ := hL.at (by omega) hi
  dsimp only [mp0] at p
  obtain ⟨p0, p1, p2, p3, p4, p5, p6, p7, p8, p9⟩ := p
  obtain ⟨⟨M1, M2, M3, M4, M5⟩, -⟩ := id hM
  unfold w_StackModule_parameterType
  refine ⟨hM.k, cd, M2, rw 0, hM.row (by omega), hM.krow (by omega), md_at (c := 5) hM (i := i) (j := 1) (by omega) rfl hx rfl (by omega) hi2 (fun r e _ => ?_)⟩
  have er : r.toInt = (vs 0 (5 * i + 1)).toInt := by omega
  have e2 : (r + y).toInt = (vs 0 (5 * i + 1)).toInt + j := by rw [z_add, er, hy]; omega
  refine ⟨M3, by rw [z_in, e2, M4]; omega, ?_⟩
  rw [z_cl, e2, M5]
  have h9 := p9 ((vs 0 (5 * i + 1)).toInt + j).toNat (by omega) (by omega)
  exact hQ _ (by omega) h9.1 h9.2
theorem ck_checkExports {Qr : xb_H → Nat → Nat → Prop} {b a : Nat} (hT : ck_T S h0 md rd op ck ca rc rs Qt) (hG : ck_G S h0 h md rd op ck cd nt im N ca rw it n vs cb ν iv rc rs bc bs) (hI : md_K N cb n vs ν iv b a) (ha : a ≤ N)
    (hQ : (∀ i, i < n 6 / 5 → ((vs 6 (5 * i + 1)).toInt = 0 → (vs 6 (5 * i + 2)).toInt < (n 2 / 2 : Nat)) ∧ ((vs 6 (5 * i + 1)).toInt = 1 → (vs 6 (5 * i + 2)).toInt < (n 3 / 3 : Nat)) ∧ ((vs 6 (5 * i + 1)).toInt = 2 → (vs 6 (5 * i + 2)).toInt < (n 4 / 3 : Nat)) ∧ ((vs 6 (5 * i + 1)).toInt = 3 → (vs 6 (5 * i + 2)).toInt < (n 5 / 4 : Nat))) → Qr h bc bs) : w_Checker_checkExports ck h bc bs Qr Qt := by
  have hn6 := hI.nk (k := 6) (by omega)
  have hN := hG.M.2.2.2.2
  obtain ⟨⟨M1, M2, M3, M4, M5⟩, -⟩ := hG.M
  obtain ⟨en, c0, c1, c2, c3, c4, c5, c6, -⟩ := hI
  have key : ∀ (m : Nat) (x : Int32) (i : Nat), x.toInt = i → n 6 / 5 - i ≤ m → (∀ k, k < n 6 / 5 → k < i → ((vs 6 (5 * k + 1)).toInt = 0 → (vs 6 (5 * k + 2)).toInt < (n 2 / 2 : Nat)) ∧ ((vs 6 (5 * k + 1)).toInt = 1 → (vs 6 (5 * k + 2)).toInt < (n 3 / 3 : Nat)) ∧ ((vs 6 (5 * k + 1)).toInt = 2 → (vs 6 (5 * k + 2)).toInt < (n 4 / 3 : Nat)) ∧ ((vs 6 (5 * k + 1)).toInt = 3 → (vs 6 (5 * k + 2)).toInt < (n 5 / 4 : Nat))) → w_Checker_checkExports_L10 Qr Qt (m + 1) ck (rw 6) x h bc bs := by
    intro m
    induction m with
    | zero =>
      intro x i g1 g2 g3
      unfold w_Checker_checkExports_L10
      refine ⟨hG.M.krow (by omega), md_lines (c := 5) hG.M (by omega) rfl (by omega) (fun r e _ => ⟨fun _ => hQ (fun k k1 => g3 k k1 (by omega)), fun e2 => ?_⟩)⟩
      rw [z_le, e, g1] at e2
      omega
    | succ m ih =>
      intro x i g1 g2 g3
      unfold w_Checker_checkExports_L10
      refine ⟨hG.M.krow (by omega), md_lines (c := 5) hG.M (by omega) rfl (by omega) (fun r e _ => ⟨fun e2 => hQ (fun k k1 => g3 k k1 (by rw [z_le, e, g1] at e2; omega)), fun e2 => ?_⟩)⟩
      rw [z_le, e, g1] at e2
      have ex : (x + 1).toInt = (i + 1 : Nat) := by rw [z_add, g1]; simp only [Int32.reduceToInt]; omega
      have b2 : n 6 / 5 - (i + 1) ≤ m := by omega
      obtain ⟨p, hi⟩ := c6.at (by omega) (i := i) (by omega)
      dsimp only [mp6] at p
      obtain ⟨p0, p1, p2, p3, p4, p5, p6, p7, p8⟩ := p
      obtain ⟨κ, hκ⟩ : ∃ κ : Nat, (vs 6 (5 * i + 1)).toInt = κ := ⟨(vs 6 (5 * i + 1)).toInt.toNat, by omega⟩
      refine md_at (c := 5) hG.M (i := i) (j := 0) (by omega) rfl g1 rfl (by omega) hi (fun r6 e6 _ => md_longAt (c := 5) hG.M (i := i) (j := 2) (by omega) rfl g1 rfl (by omega) hi (fun _ => md_at (c := 5) hG.M (i := i) (j := 1) (by omega) rfl g1 rfl (by omega) hi (fun r10 e10 _ => ⟨hG.kck, ck_countOf (κ := κ) hG (by rw [e10, hκ]; omega) (by omega) (fun r13 d0 d1 d2 d3 _ => sp_isThere (fun r15 e15 _ => ⟨fun f1 => ?_, fun _ => ⟨md, hG.rmd, hG.kmd, hG.fl hT⟩⟩))⟩)))
      rcases e15 with ⟨f2, -⟩ | ⟨-, f2, f3⟩
      · exact absurd f2 f1
      have go : w_Checker_checkExports_L103 (w_Checker_checkExports_L10 Qr Qt (m + 1)) Qr Qt ck (rw 6) x h bc bs := by
        refine ih (x + 1) (i + 1) ex b2 (fun k k1 k2 => ?_)
        by_cases ek : k = i
        · subst ek
          exact ⟨fun e9 => by rw [d0 (by omega)] at f3; exact f3, fun e9 => by rw [d1 (by omega)] at f3; exact f3, fun e9 => by rw [d2 (by omega)] at f3; exact f3, fun e9 => by rw [d3 (by omega)] at f3; exact f3⟩
        · exact g3 k k1 (by omega)
      unfold w_Checker_checkExports_L57
      refine ⟨hG.M.krow (by omega), md_at (c := 5) hG.M (i := i) (j := 3) (by omega) rfl g1 rfl (by omega) hi (fun r3 e3 _ => md_at (c := 5) hG.M (i := i) (j := 4) (by omega) rfl g1 rfl (by omega) hi (fun r5 e5 _ => ⟨hG.kck, md, hG.rmd, cd, hG.2.2.1.2.1, hG.kmd, md_exportNamedBelow hG.M c6 (by omega) (by rw [g1]; omega) M3 (by omega) (by omega) (by rw [M4]; omega) (by rw [M4]; omega) (fun r11 _ _ => ⟨fun _ => go, fun _ => ⟨md, hG.rmd, hG.kmd, hG.fl hT⟩⟩)⟩))⟩
  unfold w_Checker_checkExports
  exact ⟨hG.kck, md, hG.rmd, hG.kmd, rw 6, hG.M.row (by omega), n 6 / 5 + 1, key _ 0 0 rfl (by omega) (fun k k1 k2 => by omega)⟩
theorem ck_checkStart {Qr : xb_H → Nat → Nat → Prop} {b a : Nat} (hT : ck_T S h0 md rd op ck ca rc rs Qt) (hG : ck_G S h0 h md rd op ck cd nt im N ca rw it n vs cb ν iv rc rs bc bs) (hI : md_K N cb n vs ν iv b a) (ha : a ≤ N)
    (hf : ∀ i, i < n 2 / 2 → 0 ≤ (vs 2 (2 * i + 1)).toInt ∧ (vs 2 (2 * i + 1)).toInt < (n 0 / 5 : Nat))
    (hQ : ((xb_i h md 16).toInt = -1 ∨ ∃ f : Nat, (xb_i h md 15).toInt = f ∧ f < n 2 / 2 ∧ ∃ t : Nat, (vs 2 (2 * f + 1)).toInt = t ∧ (vs 0 (5 * t + 2)).toInt = 0 ∧ (vs 0 (5 * t + 4)).toInt = 64) → Qr h bc bs) : w_Checker_checkStart ck h bc bs Qr Qt := by
  have hn0 := hI.nk (k := 0) (by omega)
  have hn2 := hI.nk (k := 2) (by omega)
  have hN := hG.M.2.2.2.2
  obtain ⟨en, c0, -⟩ := hI
  have L89 : w_Checker_checkStart_L89 Qr Qt ck h bc bs := ⟨hG.kck, md, hG.rmd, md, hG.rmd, hG.kmd, hG.kmd, hG.fl hT⟩
  unfold w_Checker_checkStart
  refine ⟨hG.kck, md, hG.rmd, hG.kmd, fun e => ⟨md, hG.rmd, hG.kmd, md, hG.rmd, hG.kmd, rw 2, hG.M.row (by omega), hG.M.krow (by omega), md_lines (c := 2) hG.M (by omega) rfl (by omega) (fun r12 e12 _ => sp_isThere (fun r14 e14 _ => ⟨fun f1 => ?_, fun _ => ⟨md, hG.rmd, md, hG.rmd, hG.kmd, hG.kmd, hG.fl hT⟩⟩))⟩, fun e => hQ (.inl ?_)⟩
  · rcases e14 with ⟨f2, -⟩ | ⟨-, f2, f3⟩
    · exact absurd f2 f1
    rw [Z_of32] at f2 f3
    obtain ⟨f, hff⟩ : ∃ f : Nat, (xb_i h md 15).toInt = f := ⟨(xb_i h md 15).toInt.toNat, by omega⟩
    obtain ⟨t1, t2⟩ := hf f (by omega)
    obtain ⟨t, ht⟩ : ∃ t : Nat, (vs 2 (2 * f + 1)).toInt = t := ⟨(vs 2 (2 * f + 1)).toInt.toNat, by omega⟩
    unfold w_Checker_checkStart_L52
    refine ⟨hG.kck, md, hG.rmd, md, hG.rmd, hG.kmd, hG.kmd, md_typeOf (i := f) hG.M hff (by omega) t1 (by omega) (fun r7 e7 _ => ⟨md, hG.rmd, hG.kmd, md_parameters (i := t) hG.M c0 (by omega) (by omega) (fun r11 e11 e11a e11b _ => ⟨fun _ => L89, fun g1 => ⟨md, hG.rmd, hG.kmd, md_hasResult (i := t) hG.M c0 (by omega) (by omega) (fun r16 e16 _ => ⟨fun g2 => ?_, fun _ => L89⟩)⟩⟩)⟩)⟩
    rw [z_lt] at g1
    simp only [Int32.reduceToInt] at g1
    rcases e16 with ⟨-, g3⟩ | ⟨g3, -⟩
    · exact hQ (.inr ⟨f, hff, by omega, t, ht, by omega, g3⟩)
    · rw [g2] at g3
      exact absurd g3 (by decide)
  · rw [e]
    rfl
theorem ck_checkOffset {Qr : xb_H → Nat → Nat → Prop} {x2 x3 : Int32} {k i p e b : Nat} (hT : ck_T S h0 md rd op ck ca rc rs Qt) (hG : ck_G S h0 h md rd op ck cd nt im N ca rw it n vs cb ν iv rc rs bc bs) (hk : k < 12) (hc : xr_c k = 5) (hx : x2.toInt = i) (hi : 5 * i + 5 ≤ n k)
    (hv : ∀ i : Nat, (i : Int) < (iv 3).toInt → 4 * i + 4 ≤ n 5 ∧ 124 ≤ (vs 5 (4 * i + 1)).toInt ∧ (vs 5 (4 * i + 1)).toInt ≤ 127 ∧ ((vs 5 (4 * i + 2)).toInt = 0 ∨ (vs 5 (4 * i + 2)).toInt = 1)) (hby : ∀ j, -128 ≤ (cb j).toInt ∧ (cb j).toInt ≤ 127)
    (hp : (vs k (5 * i + 2)).toInt = p) (hm : mex cb ν b p e) (hb : b ≤ N) (hQ : 0 ≤ (vs k (5 * i + 1)).toInt → (vs k (5 * i + 1)).toInt < x3.toInt → ck_ex N cb ν (vs 5) (iv 3).toInt p 127 → Qr h bc bs) : w_Checker_checkOffset ck (rw k) x2 x3 h bc bs Qr Qt := by
  have hN := hG.M.2.2.2.2
  have hpN : p ≤ N := by
    obtain ⟨p', m, e1, e2, e3, e4⟩ := hm
    omega
  unfold w_Checker_checkOffset w_Checker_checkOffset_L28
  refine ⟨hG.M.krow hk, md_longAt (c := 5) hG.M (i := i) (j := 1) hk hc hx rfl (by omega) hi (fun _ => sp_isThere (fun r5 e5 _ => ⟨fun f1 => ⟨hG.M.krow hk, md_at (c := 5) hG.M (i := i) (j := 2) hk hc hx rfl (by omega) hi (fun r3 e3 _ => ⟨hG.kck, ?_⟩)⟩, fun _ => ⟨hG.kck, md, hG.rmd, md_at (c := 5) hG.M (i := i) (j := 0) hk hc hx rfl (by omega) hi (fun _ _ _ => ⟨hG.kmd, hG.fl hT⟩)⟩⟩))⟩
  rcases e5 with ⟨f2, -⟩ | ⟨-, f2, f3⟩
  · exact absurd f2 f1
  exact ck_checkExpression hT hG hv hby (by rw [e3, hp]; omega) hm hb (fun he _ => hQ f2 f3 he)
theorem ck_checkData {Qr : xb_H → Nat → Nat → Prop} {b a : Nat} (hT : ck_T S h0 md rd op ck ca rc rs Qt) (hG : ck_G S h0 h md rd op ck cd nt im N ca rw it n vs cb ν iv rc rs bc bs) (hI : md_K N cb n vs ν iv b a) (ha : a ≤ N) (hb : b ≤ N) (hq : md_Q n iv) (hby : ∀ j, -128 ≤ (cb j).toInt ∧ (cb j).toInt ≤ 127)
    (hQ : (∀ i, i < n 11 / 5 → (vs 11 (5 * i + 1)).toInt < (n 4 / 3 : Nat) ∧ ∃ p : Nat, (vs 11 (5 * i + 2)).toInt = p ∧ ck_ex N cb ν (vs 5) (iv 3).toInt p 127) → Qr h bc bs) : w_Checker_checkData ck h bc bs Qr Qt := by
  have hn := hI.nk (k := 11) (by omega)
  have hN := hG.M.2.2.2.2
  have hvars := hI.vars hq
  obtain ⟨en, c0, c1, c2, c3, c4, c5, c6, c7, c8, c9, c10, c11, -⟩ := hI
  have key : ∀ (m : Nat) (x : Int32) (i : Nat), x.toInt = i → n 11 / 5 - i ≤ m → (∀ k, k < n 11 / 5 → k < i → (vs 11 (5 * k + 1)).toInt < (n 4 / 3 : Nat) ∧ ∃ p : Nat, (vs 11 (5 * k + 2)).toInt = p ∧ ck_ex N cb ν (vs 5) (iv 3).toInt p 127) → w_Checker_checkData_L2 Qr Qt (m + 1) ck x h bc bs := by
    intro m
    induction m with
    | zero =>
      intro x i g1 g2 g3
      unfold w_Checker_checkData_L2
      refine ⟨hG.kck, md, hG.rmd, hG.kmd, rw 11, hG.M.row (by omega), hG.M.krow (by omega), md_lines (c := 5) hG.M (by omega) rfl (by omega) (fun r e _ => ⟨fun _ => hQ (fun k k1 => g3 k k1 (by omega)), fun e2 => ?_⟩)⟩
      rw [z_le, e, g1] at e2
      omega
    | succ m ih =>
      intro x i g1 g2 g3
      unfold w_Checker_checkData_L2
      refine ⟨hG.kck, md, hG.rmd, hG.kmd, rw 11, hG.M.row (by omega), hG.M.krow (by omega), md_lines (c := 5) hG.M (by omega) rfl (by omega) (fun r e _ => ⟨fun e2 => hQ (fun k k1 => g3 k k1 (by rw [z_le, e, g1] at e2; omega)), fun e2 => ?_⟩)⟩
      rw [z_le, e, g1] at e2
      have ex : (x + 1).toInt = (i + 1 : Nat) := by rw [z_add, g1]; simp only [Int32.reduceToInt]; omega
      have b2 : n 11 / 5 - (i + 1) ≤ m := by omega
      obtain ⟨p, hi⟩ := c11.at (by omega) (i := i) (by omega)
      dsimp only [mp11] at p
      obtain ⟨p0, p1, p2, p3, p4, -⟩ := p
      obtain ⟨pp, mm, f1, f2, f3, f4⟩ := id p4
      rw [f1] at p4
      refine ⟨md, hG.rmd, hG.kmd, rw 11, hG.M.row (by omega), md, hG.rmd, hG.kmd, rw 4, hG.M.row (by omega), hG.M.krow (by omega), md_lines (c := 3) hG.M (by omega) rfl (by omega) (fun r17 e17 _ => ck_checkOffset (i := i) (p := pp) hT hG (by omega) rfl g1 hi hvars hby f1 p4 hb (fun a1 a2 a3 _ => ih (x + 1) (i + 1) ex b2 (fun k k1 k2 => ?_)))⟩
      by_cases ek : k = i
      · subst ek
        exact ⟨by rw [e17] at a2; exact a2, pp, f1, a3⟩
      · exact g3 k k1 (by omega)
  unfold w_Checker_checkData
  exact ⟨n 11 / 5 + 1, key _ 0 0 rfl (by omega) (fun k k1 k2 => by omega)⟩
end CK4
