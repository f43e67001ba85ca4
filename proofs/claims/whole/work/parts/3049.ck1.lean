-- the checker: what it looks at ahead of the bodies
/-- what stays of the heap h0 whatever the checker does; S: what it may change -/
def ck_X (S : Nat → Prop) (h0 h : xb_H) (md rd op ck : Nat) (ca : Nat → Nat) : Prop :=
  xb_ext h0 h ∧ (∀ a, xb_k h0 a ≠ 0 → ¬ S a → xh_sm h0 h a) ∧ xb_k h md = 3 ∧ xb_k h0 md = 0 ∧ (xb_k h rd = 4 ∧ xb_r h rd 5 = some op) ∧ xb_k h ck = 5 ∧
  (∃ o, xb_r h ck 3 = some o ∧ xb_k h o = 100 ∧ (S o ∨ xb_k h0 o = 0) ∧ o ≠ ca 0 ∧ xb_n h o ≤ 1000000) ∧ (∀ k, k < 7 → xb_r h ck (if k = 0 then 6 else k + 9) = some (ca k) ∧ xb_k h (ca k) = (if k = 0 then 100 else if k = 6 then 101 else 102) ∧ xb_n h (ca k) = (if k = 0 then 1000 else 201) ∧ S (ca k))
def ck_T (S : Nat → Prop) (h0 : xb_H) (md rd op ck : Nat) (ca : Nat → Nat) (rc rs : Nat) (Qt : String → xb_H → Nat → Nat → Prop) : Prop := ∀ (h : xb_H) (bc bs : Nat), ck_X S h0 h md rd op ck ca → rc ≤ bc → rs ≤ bs → Qt "java/lang/IllegalArgumentException" h bc bs
theorem ck_X.mdI {S : Nat → Prop} {h0 h : xb_H} {md rd op ck : Nat} {ca : Nat → Nat} {k : Nat} {x : Int32} (hX : ck_X S h0 h md rd op ck ca) : ck_X S h0 (xb_I h md k x) md rd op ck ca := by
  obtain ⟨h1, h2, h3, h4, h5⟩ := hX
  exact ⟨h1, fun a ha hS => (h2 a ha hS).tr (xh_smI _ _ _ (fun e => ha (e ▸ h4))), h3, h4, h5⟩
section CK1
variable {S : Nat → Prop} {h0 h : xb_H} {md rd op ck cd nt im N rc rs : Nat} {ca : Nat → Nat} {rw it n : Nat → Nat} {vs : Nat → Nat → Int64} {cb ν iv : Nat → Int32} {bc bs : Nat} {Qt : String → xb_H → Nat → Nat → Prop}
theorem ck_fail {x1 x2 : Int32} {Qr : xb_H → Nat → Nat → Prop} (hT : ck_T S h0 md rd op ck ca rc rs Qt) (hX : ck_X S h0 h md rd op ck ca) (hc : rc + 1 ≤ bc) (hb : rs + 6 ≤ bs) : w_StackModule_fail md x1 x2 h bc bs Qr Qt := by
  unfold w_StackModule_fail
  refine ⟨hX.2.2.1, fun h2 e2 h3 e3 => ⟨by omega, by omega, hT h3 _ _ ?_ (by omega) (by omega)⟩⟩
  rw [e3, e2]
  exact hX.mdI.mdI
/-- the checker at work on a module -/
def ck_G (S : Nat → Prop) (h0 h : xb_H) (md rd op ck cd nt im N : Nat) (ca : Nat → Nat) (rw it n : Nat → Nat) (vs : Nat → Nat → Int64) (cb ν iv : Nat → Int32) (rc rs bc bs : Nat) : Prop :=
  ck_X S h0 h md rd op ck ca ∧ md_M h md cd nt im N rw it n vs cb ν iv ∧ (xb_r h ck 0 = some md ∧ xb_r h ck 1 = some cd ∧ xb_r h ck 2 = some nt) ∧ rc + 1 ≤ bc ∧ rs + 6 ≤ bs
theorem ck_G.kck (hG : ck_G S h0 h md rd op ck cd nt im N ca rw it n vs cb ν iv rc rs bc bs) : xb_k h ck = 5 := hG.1.2.2.2.2.2.1
theorem ck_G.rmd (hG : ck_G S h0 h md rd op ck cd nt im N ca rw it n vs cb ν iv rc rs bc bs) : xb_r h ck 0 = some md := hG.2.2.1.1
theorem ck_G.kmd (hG : ck_G S h0 h md rd op ck cd nt im N ca rw it n vs cb ν iv rc rs bc bs) : xb_k h md = 3 := hG.2.1.1.1
theorem ck_G.M (hG : ck_G S h0 h md rd op ck cd nt im N ca rw it n vs cb ν iv rc rs bc bs) : md_M h md cd nt im N rw it n vs cb ν iv := hG.2.1
theorem ck_G.fl (hG : ck_G S h0 h md rd op ck cd nt im N ca rw it n vs cb ν iv rc rs bc bs) (hT : ck_T S h0 md rd op ck ca rc rs Qt) {x1 x2 : Int32} {Qr : xb_H → Nat → Nat → Prop} : w_StackModule_fail md x1 x2 h bc bs Qr Qt := ck_fail hT hG.1 hG.2.2.2.1 hG.2.2.2.2
theorem ck_checkTypes {Qr : xb_H → Nat → Nat → Prop} (hT : ck_T S h0 md rd op ck ca rc rs Qt) (hG : ck_G S h0 h md rd op ck cd nt im N ca rw it n vs cb ν iv rc rs bc bs) (hL : xr_L 5 (mp0 N cb) (n 0) (vs 0)) (hn : n 0 ≤ 2 * N)
    (hQ : (∀ i, i < n 0 / 5 → (vs 0 (5 * i + 3)).toInt ≤ 1) → Qr h bc bs) : w_Checker_checkTypes ck h bc bs Qr Qt := by
  have hN := hG.M.2.2.2.2
  have key : ∀ (m : Nat) (x : Int32) (i : Nat), x.toInt = i → i ≤ n 0 / 5 → n 0 / 5 - i ≤ m → (∀ k, k < i → (vs 0 (5 * k + 3)).toInt ≤ 1) → w_Checker_checkTypes_L2 Qr Qt (m + 1) ck x h bc bs := by
    intro m
    induction m with
    | zero =>
      intro x i g1 g2 g3 g4
      unfold w_Checker_checkTypes_L2
      refine ⟨hG.kck, md, hG.rmd, hG.kmd, rw 0, hG.M.row (by omega), hG.M.krow (by omega), md_lines (c := 5) hG.M (by omega) rfl (by omega) (fun r e _ => ⟨fun _ => hQ (fun k hk => g4 k (by omega)), fun e2 => ?_⟩)⟩
      rw [z_le, e, g1] at e2
      omega
    | succ m ih =>
      intro x i g1 g2 g3 g4
      unfold w_Checker_checkTypes_L2
      refine ⟨hG.kck, md, hG.rmd, hG.kmd, rw 0, hG.M.row (by omega), hG.M.krow (by omega), md_lines (c := 5) hG.M (by omega) rfl (by omega) (fun r e _ => ⟨fun e2 => hQ (fun k hk => g4 k (by rw [z_le, e, g1] at e2; omega)), fun e2 => ?_⟩)⟩
      rw [z_le, e, g1] at e2
      obtain ⟨p, hi⟩ := hL.at (by omega) (i := i) (by omega)
      dsimp only [mp0] at p
      obtain ⟨p0, p1, p2, p3, p4, p5, p6, -⟩ := p
      refine ⟨md, hG.rmd, hG.kmd, rw 0, hG.M.row (by omega), hG.M.krow (by omega), md_at (c := 5) hG.M (i := i) (j := 3) (by omega) rfl g1 rfl (by omega) hi (fun r14 e14 _ => ⟨fun e3 => ?_, fun _ => ⟨md, hG.rmd, md, hG.rmd, hG.kmd, rw 0, hG.M.row (by omega), hG.M.krow (by omega), md_at (c := 5) hG.M (i := i) (j := 0) (by omega) rfl g1 rfl (by omega) hi (fun _ _ _ => ⟨hG.kmd, hG.fl hT⟩)⟩⟩)⟩
      rw [z_le, e14] at e3
      simp only [Int32.reduceToInt] at e3
      have ex : (x + 1).toInt = (i + 1 : Nat) := by rw [z_add, g1]; simp only [Int32.reduceToInt]; omega
      refine ih (x + 1) (i + 1) ex (by omega) (by omega) (fun k hk => ?_)
      by_cases ek : k = i
      · subst ek
        omega
      · exact g4 k (by omega)
  unfold w_Checker_checkTypes
  exact ⟨n 0 / 5 + 1, key _ 0 0 rfl (by omega) (by omega) (fun k hk => by omega)⟩
theorem ck_checkFunction {Qr : xb_H → Nat → Nat → Prop} {x : Int32} {i : Nat} (hT : ck_T S h0 md rd op ck ca rc rs Qt) (hG : ck_G S h0 h md rd op ck cd nt im N ca rw it n vs cb ν iv rc rs bc bs) (hx : x.toInt = i) (hi : 2 * i + 2 ≤ n 2)
    (hQ : 0 ≤ (vs 2 (2 * i + 1)).toInt → (vs 2 (2 * i + 1)).toInt < (n 0 / 5 : Nat) → Qr h bc bs) : w_Checker_checkFunction ck x h bc bs Qr Qt := by
  unfold w_Checker_checkFunction w_Checker_checkFunction_L49
  refine ⟨hG.kck, md, hG.rmd, hG.kmd, rw 2, hG.M.row (by omega), hG.M.krow (by omega), md_longAt (c := 2) hG.M (i := i) (j := 1) (by omega) rfl hx rfl (by omega) hi (fun _ => ⟨md, hG.rmd, hG.kmd, rw 0, hG.M.row (by omega), hG.M.krow (by omega), md_lines (c := 5) hG.M (by omega) rfl (by omega) (fun r13 e13 _ => sp_isThere (fun r15 e15 _ => ⟨fun e => ?_, fun _ => ⟨md, hG.rmd, md, hG.rmd, hG.kmd, rw 2, hG.M.row (by omega), hG.M.krow (by omega), md_at (c := 2) hG.M (i := i) (j := 0) (by omega) rfl hx rfl (by omega) hi (fun _ _ _ => ⟨hG.kmd, hG.fl hT⟩)⟩⟩))⟩)⟩
  rcases e15 with ⟨e1, -⟩ | ⟨-, e2, e3⟩
  · exact absurd e1 e
  · rw [e13] at e3
    exact hQ e2 e3
theorem ck_checkLimits {Qr : xb_H → Nat → Nat → Prop} {x : Int32} {x3 : Int64} {i k : Nat} (hT : ck_T S h0 md rd op ck ca rc rs Qt) (hG : ck_G S h0 h md rd op ck cd nt im N ca rw it n vs cb ν iv rc rs bc bs) (hk : k < 12) (hc : xr_c k = 3) (hx : x.toInt = i) (hi : 3 * i + 3 ≤ n k)
    (hQ : i = 0 → (vs k 1).toInt ≤ x3.toInt → (vs k 2).toInt ≤ x3.toInt → ((vs k 2).toInt = -1 ∨ (vs k 1).toInt ≤ (vs k 2).toInt) → Qr h bc bs) : w_Checker_checkLimits ck (rw k) x x3 h bc bs Qr Qt := by
  unfold w_Checker_checkLimits
  have f55 : ∀ y, w_Checker_checkLimits_L55 Qr Qt ck x y h bc bs := fun y => ⟨hG.kck, md, hG.rmd, hG.kmd, hG.fl hT⟩
  have f66 : ∀ y, (vs k (3 * i + 1)).toInt ≤ x3.toInt → (vs k (3 * i + 2)).toInt ≤ x3.toInt → ((vs k (3 * i + 2)).toInt = -1 ∨ (vs k (3 * i + 1)).toInt ≤ (vs k (3 * i + 2)).toInt) → w_Checker_checkLimits_L66 Qr Qt ck x y h bc bs := by
    intro y a1 a2 a3
    unfold w_Checker_checkLimits_L66 w_Checker_checkLimits_L81
    refine ⟨fun e => ?_, fun _ => ⟨hG.kck, md, hG.rmd, hG.kmd, hG.fl hT⟩⟩
    rw [z_le, hx] at e
    simp only [Int32.reduceToInt] at e
    have ei : i = 0 := by omega
    subst ei
    exact hQ rfl a1 a2 a3
  refine ⟨hG.M.krow hk, md_longAt (c := 3) hG.M (i := i) (j := 1) hk hc hx rfl (by omega) hi (fun _ => md_longAt (c := 3) hG.M (i := i) (j := 2) hk hc hx rfl (by omega) hi (fun _ => md_at (c := 3) hG.M (i := i) (j := 0) hk hc hx rfl (by omega) hi (fun r7 _ _ => ⟨fun _ => f55 r7, fun e1 => ⟨fun _ => f55 r7, fun e2 => ⟨fun e3 => ?_, fun e3 => ⟨fun e4 => ?_, fun _ => f55 r7⟩⟩⟩⟩)))⟩
  · rw [Z_lt] at e1 e2
    rw [Z_eq] at e3
    exact f66 r7 (by omega) (by omega) (.inl e3)
  · rw [Z_lt] at e1 e2
    rw [Z_le] at e4
    exact f66 r7 (by omega) (by omega) (.inr e4)
end CK1
