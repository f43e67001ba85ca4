-- the checker in a body: calls
section CS5
variable {S : Nat → Prop} {h0 h : xb_H} {md rd op ck cd nt im N oa rc rs : Nat} {ca : Nat → Nat} {rw it n : Nat → Nat} {vs : Nat → Nat → Int64} {cb ν iv lo : Nat → Int32} {R0 F : Nat → Nat → Int32} {bc bs : Nat} {Qt : String → xb_H → Nat → Nat → Prop} {cur : List Int} {fs r : List ckF} {f : ckF} {g p lc ty : Int}
theorem z_dec {y : Int32} {k : Nat} (h : y.toInt = k) (hk : k ≤ 1000000) : (y + (-1)).toInt = (k : Int) - 1 := by
  rw [z_add, h]
  simp only [Int32.reduceToInt]
  omega
theorem z_inc {y : Int32} {k : Nat} (h : y.toInt = k) (hk : k ≤ 1000000) : (y + 1).toInt = (k + 1 : Nat) := by
  rw [z_add, h]
  simp only [Int32.reduceToInt]
  omega
theorem cs_checkCall {x : Int32} {t : Nat} {Qr : xb_H → Nat → Nat → Prop} (hT : ck_T S h0 md rd op ck ca rc rs Qt) (hH : ck_H S h0 h md rd op ck cd nt im N oa ca rw it n vs cb iv R0) (hF : ck_Fr S h0 h F) (hc : rc + 1 ≤ bc) (hb : rs + 6 ≤ bs) (hS : ck_S ck oa nt cd im ca rw R0 cb iv F cur (f :: r) ν lo g p lc ty) (hcl : (cur.length : Int) ≤ N) (hg : g ≤ 100000) (hfl : (f :: r).length ≤ 201) (hL : xr_L 5 (mp0 N cb) (n 0) (vs 0)) (hx : x.toInt = t) (ht : t < n 0 / 5)
    (hQ : ∀ (F' : Nat → Nat → Int32) (c1 cur' : List Int) (g' : Int) (pa P : Nat), (vs 0 (5 * t + 1)).toInt = pa → (vs 0 (5 * t + 2)).toInt = P → ck_tkl f cur (ptl cb pa P) c1 → ck_pt c1 g (vs 0 (5 * t + 4)).toInt cur' g' → ck_Fr S h0 h F' → ck_S ck oa nt cd im ca rw R0 cb iv F' cur' (f :: r) ν lo g' p lc ty → Qr (xb_W h F') bc bs) : w_Checker_checkCall ck x (xb_W h F) bc bs Qr Qt := by
  have kck : xb_k h ck = 5 := hH.2.2.2.2.2.1
  have kmd : xb_k h md = 3 := hH.2.2.2.2.2.2.1
  have r0 := hH.2.2.1.1
  have hN : N ≤ 65536 := hH.2.2.2.2.2.2.2.2.1
  have hMo : ∀ (F' : Nat → Nat → Int32) (cur' : List Int), ck_S ck oa nt cd im ca rw R0 cb iv F' cur' (f :: r) ν lo g p lc ty → md_M (xb_W h F') md cd nt im N rw it n vs cb ν iv := fun F' cur' q => hH.2.1 F' ν q.2.2.2.1 q.2.2.2.2.2.1 q.2.2.2.2.2.2.1 q.2.2.2.2.2.2.2.1
  obtain ⟨pp, hi⟩ := hL.at (by omega) ht
  dsimp only [mp0] at pp
  obtain ⟨p0, p1, p2, p3, p4, -⟩ := pp
  obtain ⟨pa, hpa⟩ : ∃ pa : Nat, (vs 0 (5 * t + 1)).toInt = pa := ⟨(vs 0 (5 * t + 1)).toInt.toNat, by omega⟩
  obtain ⟨P, hP⟩ : ∃ P : Nat, (vs 0 (5 * t + 2)).toInt = P := ⟨(vs 0 (5 * t + 2)).toInt.toNat, by omega⟩
  have hP9 : P ≤ 65536 := by omega
  have key : ∀ (k : Nat) (y : Int32) (F1 : Nat → Nat → Int32) (c : List Int), y.toInt = (k : Int) - 1 → k ≤ P → ck_Fr S h0 h F1 → ck_S ck oa nt cd im ca rw R0 cb iv F1 c (f :: r) ν lo g p lc ty → (c.length : Int) ≤ N → (∀ c1, ck_tkl f c (ptl cb pa k) c1 → ck_tkl f cur (ptl cb pa P) c1) → w_Checker_checkCall_L11 Qr Qt (k + 1) ck x y (xb_W h F1) bc bs := by
    clear hi p0 p1 p2 p3 p4
    intro k
    induction k with
    | zero =>
      intro y F1 c g1 g2 hF1 hS1 g3 g4
      unfold w_Checker_checkCall_L11
      refine ⟨fun _ => ⟨kck, md, r0, kmd, md_resultType (hMo F1 c hS1) hL hx ht (fun r6 e6 e6' _ => cs_put hH hF1 hS1 g3 (by omega) (by omega) (fun F2 cur' g' q hF2 hS2 _ => hQ F2 c cur' g' pa P hpa hP (g4 c rfl) (by rw [← e6]; exact q) hF2 hS2))⟩, fun e => ?_⟩
      rw [z_lt, g1] at e
      simp only [Int32.reduceToInt] at e
      omega
    | succ k ih =>
      intro y F1 c g1 g2 hF1 hS1 g3 g4
      have ey : y.toInt = k := by rw [g1]; simp
      have hk9 : k ≤ 1000000 := by omega
      have hkP : (k : Int) < (vs 0 (5 * t + 2)).toInt := by rw [hP]; omega
      unfold w_Checker_checkCall_L11
      refine ⟨fun e => ?_, fun _ => ⟨kck, md, r0, kmd, md_parameterType (hMo F1 c hS1) hL hx ht ey hkP (fun q q1 q2 q3 _ => cs_take hT hH hF1 hc hb hS1 g3 hfl (fun u F2 c2 t2 hF2 hS2 _ => ih (y + (-1)) F2 c2 (z_dec ey hk9) (by omega) hF2 hS2 (by have := t2.len; omega) (fun c1 h1 => g4 c1 ⟨u.toInt, c2, ?_, h1⟩)))⟩⟩
      · rw [z_lt, ey] at e
        simp only [Int32.reduceToInt] at e
        omega
      · have eq : q = pa + k := by rw [hpa] at q1; omega
        rw [← eq]
        exact t2
  unfold w_Checker_checkCall
  refine ⟨kck, md, r0, kmd, md_parameters (hMo F cur hS) hL hx ht (fun r5 e5 e5a e5b _ v6 e6 => ⟨P + 1, key P v6 F cur ?_ (Nat.le_refl P) hF hS hcl (fun _ h => h)⟩)⟩
  rw [e6, z_sub, e5, hP]
  simp only [Int32.reduceToInt]
  omega
end CS5
