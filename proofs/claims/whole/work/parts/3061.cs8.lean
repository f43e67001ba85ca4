-- the checker in a body: reckoning, memory, locals and variables
def SG (k : Nat) : Int := (xb_cSIG.getD k 0).toInt
def MT (k : Nat) : Int := (xb_cMT.getD k 0).toInt
def MB (k : Nat) : Int := (xb_cMB.getD k 0).toInt
theorem SG_ok : ∀ i, i < 30 → (SG (4 * i + 1) = 1 ∨ SG (4 * i + 1) = 2) ∧ (124 ≤ SG (4 * i + 2) ∧ SG (4 * i + 2) ≤ 127) ∧ 124 ≤ SG (4 * i + 3) ∧ SG (4 * i + 3) ≤ 127 := by decide +kernel
theorem SG_29 : SG 116 = 191 := by decide +kernel
theorem MT_ok : ∀ i, i < 23 → 124 ≤ MT i ∧ MT i ≤ 127 := by decide +kernel
section CS8
variable {S : Nat → Prop} {h0 h : xb_H} {md rd op ck cd nt im N oa rc rs : Nat} {ca : Nat → Nat} {rw it n : Nat → Nat} {vs : Nat → Nat → Int64} {cb ν iv lo : Nat → Int32} {R0 F : Nat → Nat → Int32} {bc bs : Nat} {Qt : String → xb_H → Nat → Nat → Prop} {cur : List Int} {fs r : List ckF} {f : ckF} {g p lc ty : Int}
theorem cs_checkNumeric {x : Int32} {Qr : xb_H → Nat → Nat → Prop} (hT : ck_T S h0 md rd op ck ca rc rs Qt) (hH : ck_H S h0 h md rd op ck cd nt im N oa ca rw it n vs cb iv R0) (hF : ck_Fr S h0 h F) (hc : rc + 1 ≤ bc) (hb : rs + 6 ≤ bs) (hS : ck_S ck oa nt cd im ca rw R0 cb iv F cur (f :: r) ν lo g p lc ty) (hcl : (cur.length : Int) ≤ N) (hg : g ≤ 100000) (hfl : (f :: r).length ≤ 201) (hx : x.toInt ≤ 191)
    (hQ : ∀ (F' : Nat → Nat → Int32) (i : Nat) (c1 cur' : List Int) (g' : Int), i < 30 → (∀ j, j < i → SG (4 * j) < x.toInt) → x.toInt ≤ SG (4 * i) → ck_tkl f cur (List.replicate (SG (4 * i + 1)).toNat (SG (4 * i + 2))) c1 → ck_pt c1 g (SG (4 * i + 3)) cur' g' → ck_Fr S h0 h F' → ck_S ck oa nt cd im ca rw R0 cb iv F' cur' (f :: r) ν lo g' p lc ty → Qr (xb_W h F') bc bs) : w_Checker_checkNumeric ck x (xb_W h F) bc bs Qr Qt := by
  have kck : xb_k h ck = 5 := hH.2.2.2.2.2.1
  have hN : N ≤ 65536 := hH.2.2.2.2.2.2.2.2.1
  have key2 : ∀ (i : Nat) (x2 : Int32), i < 30 → x2.toInt = (4 * i : Nat) → (∀ j, j < i → SG (4 * j) < x.toInt) → x.toInt ≤ SG (4 * i) → ∀ (m : Nat) (x3 : Int32) (j : Nat) (F1 : Nat → Nat → Int32) (c : List Int), x3.toInt = j → (j : Int) + m = SG (4 * i + 1) → ck_Fr S h0 h F1 → ck_S ck oa nt cd im ca rw R0 cb iv F1 c (f :: r) ν lo g p lc ty → (c.length : Int) ≤ N → (∀ c1, ck_tkl f c (List.replicate m (SG (4 * i + 2))) c1 → ck_tkl f cur (List.replicate (SG (4 * i + 1)).toNat (SG (4 * i + 2))) c1) → w_Checker_checkNumeric_L33 Qr Qt (m + 1) ck x2 x3 (xb_W h F1) bc bs := by
    intro i x2 hi h2 h3 h4
    obtain ⟨k1, ⟨k2, k3⟩, k4, k5⟩ := SG_ok i hi
    have e1 : (x2 + 1).toInt = (4 * i + 1 : Nat) := z_inc h2 (by omega)
    have e2 : (x2 + 2).toInt = (4 * i + 2 : Nat) := by rw [z_add, h2]; simp only [Int32.reduceToInt]; omega
    have e3 : (x2 + 3).toInt = (4 * i + 3 : Nat) := by rw [z_add, h2]; simp only [Int32.reduceToInt]; omega
    have c1' : (x2 + 1).toNatClampNeg = 4 * i + 1 := by rw [z_cl, e1]; omega
    have c2' : (x2 + 2).toNatClampNeg = 4 * i + 2 := by rw [z_cl, e2]; omega
    have c3' : (x2 + 3).toNatClampNeg = 4 * i + 3 := by rw [z_cl, e3]; omega
    intro m
    induction m with
    | zero =>
      intro x3 j F1 c g1 g2 hF1 hS1 g3 g4
      unfold w_Checker_checkNumeric_L33
      rw [c1', c2', c3']
      refine ⟨by rw [z_in, e1]; omega, fun _ => ⟨by rw [z_in, e3]; omega, kck, cs_put hH hF1 hS1 g3 (by omega) (by have : (xb_cSIG.getD (4 * i + 3) 0).toInt = SG (4 * i + 3) := rfl; omega) (fun F2 cur' g' w hF2 hS2 _ => hQ F2 i c cur' g' hi h3 h4 (g4 c rfl) w hF2 hS2)⟩, fun e => ?_⟩
      rw [z_le, g1] at e
      have : (xb_cSIG.getD (4 * i + 1) 0).toInt = SG (4 * i + 1) := rfl
      omega
    | succ m ih =>
      intro x3 j F1 c g1 g2 hF1 hS1 g3 g4
      have ex : (x3 + 1).toInt = (j + 1 : Nat) := z_inc g1 (by omega)
      unfold w_Checker_checkNumeric_L33
      rw [c1', c2', c3']
      refine ⟨by rw [z_in, e1]; omega, fun e => ?_, fun _ => ⟨by rw [z_in, e2]; omega, kck, cs_take hT hH hF1 hc hb hS1 g3 hfl (fun u F2 c2 t2 hF2 hS2 _ => ih (x3 + 1) (j + 1) F2 c2 ex (by omega) hF2 hS2 (by have := t2.len; omega) (fun c1 q => g4 c1 ⟨u.toInt, c2, t2, q⟩))⟩⟩
      rw [z_le, g1] at e
      have : (xb_cSIG.getD (4 * i + 1) 0).toInt = SG (4 * i + 1) := rfl
      omega
  have L31 : ∀ (i : Nat) (x2 : Int32), i < 30 → x2.toInt = (4 * i : Nat) → (∀ j, j < i → SG (4 * j) < x.toInt) → x.toInt ≤ SG (4 * i) → w_Checker_checkNumeric_L31 Qr Qt ck x2 (xb_W h F) bc bs := by
    intro i x2 hi h2 h3 h4
    obtain ⟨k1, -⟩ := SG_ok i hi
    unfold w_Checker_checkNumeric_L31
    exact ⟨(SG (4 * i + 1)).toNat + 1, key2 i x2 hi h2 h3 h4 _ 0 0 F cur rfl (by omega) hF hS hcl (fun _ q => q)⟩
  have key1 : ∀ (m i : Nat) (x2 x3 : Int32), i + m = 30 → 0 < m → x2.toInt = (4 * i : Nat) → x3.toInt = (4 * i : Nat) → (∀ j, j < i → SG (4 * j) < x.toInt) → w_Checker_checkNumeric_L4 Qr Qt m ck x x2 x3 (xb_W h F) bc bs := by
    intro m
    induction m with
    | zero => intro i x2 x3 _ h9; omega
    | succ m ih =>
      intro i x2 x3 g1 _ g2 g3 g4
      have c3 : x3.toNatClampNeg = 4 * i := by rw [z_cl, g3]; omega
      have e4 : (x3 + 4).toInt = (4 * (i + 1) : Nat) := by rw [z_add, g3]; simp only [Int32.reduceToInt]; omega
      have es : (xb_cSIG.getD (4 * i) 0).toInt = SG (4 * i) := rfl
      unfold w_Checker_checkNumeric_L4
      rw [c3]
      refine ⟨fun e => ?_, fun e => ⟨by rw [z_in, g3]; omega, fun e2 => L31 i x2 (by omega) g2 g4 (by rw [z_le, es] at e2; exact e2), fun e2 v6 e6 => ?_⟩⟩
      · rw [z_le, g3] at e
        simp only [Int32.reduceToInt] at e
        omega
      · rw [z_le, es] at e2
        have hm : 0 < m := by
          by_cases e9 : i = 29
          · subst e9
            have h29 : SG (4 * 29) = 191 := SG_29
            omega
          · omega
        refine ih (i + 1) v6 (x3 + 4) (by omega) hm (by rw [e6]; exact e4) e4 (fun j hj => ?_)
        by_cases ej : j = i
        · subst ej
          omega
        · exact g4 j (by omega)
  unfold w_Checker_checkNumeric
  exact ⟨30, key1 30 0 0 0 rfl (by omega) rfl rfl (fun j hj => by omega)⟩
theorem cs_checkMemory {x : Int32} {q : Nat} {Qr : xb_H → Nat → Nat → Prop} (hT : ck_T S h0 md rd op ck ca rc rs Qt) (hH : ck_H S h0 h md rd op ck cd nt im N oa ca rw it n vs cb iv R0) (hF : ck_Fr S h0 h F) (hc : rc + 1 ≤ bc) (hb : rs + 6 ≤ bs) (hS : ck_S ck oa nt cd im ca rw R0 cb iv F cur (f :: r) ν lo g q lc ty) (hcl : (cur.length : Int) ≤ N) (hg : g ≤ 100000) (hfl : (f :: r).length ≤ 201) (hx1 : 40 ≤ x.toInt) (hx2 : x.toInt ≤ 64) (hq : x.toInt < 63 → q + 1 < N)
    (hQ : ∀ (F' : Nat → Nat → Int32) (cur' : List Int) (g' : Int), 0 < n 4 / 3 → (x.toInt = 63 → ck_pt cur g 127 cur' g') → (x.toInt = 64 → ∃ (r1 : Int) (c1 : List Int), ck_tk f cur 127 r1 c1 ∧ ck_pt c1 g 127 cur' g') → (x.toInt < 54 → ∃ (r1 : Int) (c1 : List Int), ck_tk f cur 127 r1 c1 ∧ ck_pt c1 g (MT (x.toInt - 40).toNat) cur' g') → (54 ≤ x.toInt → x.toInt < 63 → g' = g ∧ ∃ (r1 r2 : Int) (c1 : List Int), ck_tk f cur (MT (x.toInt - 40).toNat) r1 c1 ∧ ck_tk f c1 127 r2 cur') → ck_Fr S h0 h F' → ck_S ck oa nt cd im ca rw R0 cb iv F' cur' (f :: r) ν lo g' q lc ty → Qr (xb_W h F') bc bs) : w_Checker_checkMemory ck x (xb_W h F) bc bs Qr Qt := by
  obtain ⟨⟨s1, s2, s3, s4, s5, s6⟩, so, sf, s7, s8, s9, s10, s11, s12⟩ := id hS
  obtain ⟨-, hM', ⟨r0, r1, r2, r3, ko, lo1, lo2⟩, hD, ⟨S1, S2, S3⟩, kck, kmd, ha, hN, ⟨knt, nnt, kcd, ncd⟩⟩ := id hH
  have hM := hM' F ν s7 s9 s10 s11
  have z127 : (127 : Int32).toInt = 127 := rfl
  have L43 : ∀ (F1 : Nat → Nat → Int32) (c : List Int), ck_Fr S h0 h F1 → ck_S ck oa nt cd im ca rw R0 cb iv F1 c (f :: r) ν lo g q lc ty → (c.length : Int) ≤ N → 0 < n 4 / 3 → ((x.toInt = 63 ∧ c = cur) ∨ (x.toInt = 64 ∧ ∃ r1 : Int, ck_tk f cur 127 r1 c)) → w_Checker_checkMemory_L43 Qr Qt ck (xb_W h F1) bc bs := by
    intro F1 c hF1 hS1 g1 g2 g3
    unfold w_Checker_checkMemory_L43
    refine ⟨kck, cs_put hH hF1 hS1 g1 (by omega) (by rw [z127]; omega) (fun F2 cur' g' w hF2 hS2 _ => hQ F2 cur' g' g2 (fun e => ?_) (fun e => ?_) (fun e => by omega) (fun e => by omega) hF2 hS2)⟩
    · rcases g3 with ⟨-, g3⟩ | ⟨g3, -⟩
      · rw [← g3]; exact w
      · omega
    · rcases g3 with ⟨g3, -⟩ | ⟨-, r1, g3⟩
      · omega
      · exact ⟨r1, c, g3, w⟩
  have L93 : x.toInt < 63 → 0 < n 4 / 3 → ∀ (x2 y : Int32), x2.toInt = x.toInt - 40 → w_Checker_checkMemory_L93 Qr Qt ck x x2 y ck (xb_W h F) bc bs := by
    intro hx63 hn4 x2 y h2
    have c2 : x2.toNatClampNeg = (x.toInt - 40).toNat := by rw [z_cl, h2]
    obtain ⟨m1, m2⟩ := MT_ok (x.toInt - 40).toNat (by omega)
    have em : (xb_cMT.getD (x.toInt - 40).toNat 0).toInt = MT (x.toInt - 40).toNat := rfl
    unfold w_Checker_checkMemory_L93 w_Checker_checkMemory_L140
    rw [c2]
    refine ⟨kck, cs_require hT hH hF hc hb (fun _ _ => ⟨fun e => ⟨kck, cs_take hT hH hF hc hb hS hcl hfl (fun u F1 c1 t1 hF1 hS1 _ => ⟨by rw [z_in, h2]; omega, cs_put hH hF1 hS1 (by have := t1.len; omega) (by omega) (by omega) (fun F2 cur' g' w hF2 hS2 _ => ?_)⟩)⟩, fun e => ⟨by rw [z_in, h2]; omega, kck, cs_take hT hH hF hc hb hS hcl hfl (fun u F1 c1 t1 hF1 hS1 _ => cs_take hT hH hF1 hc hb hS1 (by have := t1.len; omega) hfl (fun u2 F2 c2 t2 hF2 hS2 _ => ?_))⟩⟩)⟩
    · rw [z_lt] at e
      simp only [Int32.reduceToInt] at e
      exact hQ F2 cur' g' hn4 (fun e => by omega) (fun e => by omega) (fun _ => ⟨u.toInt, c1, t1, w⟩) (fun e => by omega) hF2 hS2
    · rw [z_lt] at e
      simp only [Int32.reduceToInt] at e
      exact hQ F2 c2 g hn4 (fun e => by omega) (fun e => by omega) (fun e => by omega) (fun _ _ => ⟨rfl, u.toInt, u2.toInt, c1, t1, t2⟩) hF2 hS2
  have L19 : ∀ y : Int32, (¬ y = 0 → 0 < n 4 / 3) → w_Checker_checkMemory_L19 Qr Qt ck x y ck (xb_W h F) bc bs := by
    intro y hy
    unfold w_Checker_checkMemory_L19 w_Checker_checkMemory_L92
    refine ⟨kck, cs_require hT hH hF hc hb (fun y0 _ => ⟨fun e v5 e5 => ?_, fun e => ⟨fun e2 => ?_, fun e2 => ⟨kck, cs_take hT hH hF hc hb hS hcl hfl (fun u F1 c1 t1 hF1 hS1 _ => ?_)⟩⟩⟩)⟩
    · rw [z_lt] at e
      simp only [Int32.reduceToInt] at e
      have e91 : (F ck 9 + 1).toInt = (q + 1 : Nat) := z_inc s5 (by have := hq e; omega)
      have ev5 : v5.toInt = x.toInt - 40 := by rw [e5, z_sub]; simp only [Int32.reduceToInt]; omega
      refine ⟨kck, nt, r2, knt, by rw [z_in, xW_i, e91, xW_n, nnt]; have := hq e; omega, fun v10 _ => ⟨fun _ => L93 e (hy y0) v5 0 ev5, fun _ => ⟨fun _ => L93 e (hy y0) v5 0 ev5, fun _ => ⟨by rw [z_in, ev5]; omega, fun _ => L93 e (hy y0) v5 0 ev5, fun _ => L93 e (hy y0) v5 1 ev5⟩⟩⟩⟩
    · rw [z_lt] at e
      rw [z_le] at e2
      simp only [Int32.reduceToInt] at e e2
      exact L43 F cur hF hS hcl (hy y0) (.inl ⟨by omega, rfl⟩)
    · rw [z_lt] at e
      rw [z_le] at e2
      simp only [Int32.reduceToInt] at e e2
      exact L43 F1 c1 hF1 hS1 (by have := t1.len; omega) (hy y0) (.inr ⟨by omega, u.toInt, t1⟩)
  unfold w_Checker_checkMemory
  refine ⟨kck, md, r0, kmd, rw 4, hM.row (by omega), hM.krow (by omega), md_lines (c := 3) hM (by omega) rfl (by omega) (fun r7 e7 _ => ⟨fun _ => L19 0 (fun h9 => absurd rfl h9), fun e => L19 1 (fun _ => ?_)⟩)⟩
  rw [z_le, e7] at e
  simp only [Int32.reduceToInt] at e
  omega
end CS8
