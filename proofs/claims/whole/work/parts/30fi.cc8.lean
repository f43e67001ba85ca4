-- equality: the class's checker, exact: reckoning, memory
theorem MB_a : ∀ k, k < 23 → MB k = (aB (k + 40) : Int) := by decide +kernel
section CC9
variable {S : Nat → Prop} {h0 h : xb_H} {md rd op ck cd nt im N oa rc rs b : Nat} {ca : Nat → Nat} {rw it n : Nat → Nat} {vs : Nat → Nat → Int64} {cb ν iv lo : Nat → Int32} {R0 F : Nat → Nat → Int32} {bc bs : Nat} {Qt : String → xb_H → Nat → Nat → Prop} {cur : List Int} {fs r : List ckF} {f : ckF} {g p lc ty : Int} {C : Option (Nat × Nat)} {R : Except Nat cO}
theorem tkL_1 {f : s5} {x : Int} {K : List Int → Except Nat cO} : (tkL f cur [x]).bind K = (tkO f cur x).bind (fun a => K a.2) := by
  rw [tkL_b]
  rfl
theorem ckN_i {f : s5} {fs : List s5} {o i : Nat} (h1 : 69 ≤ o) (h2 : o < 192) (hi : i < 30) (h3 : ∀ j, j < i → SG (4 * j) < (o : Int)) (h4 : (o : Int) ≤ SG (4 * i)) : ckN f cur g fs o = (tkL f cur (List.replicate (SG (4 * i + 1)).toNat (SG (4 * i + 2)))).bind (fun c => .ok (ptC c g (SG (4 * i + 3)) fs)) := by
  obtain ⟨k, k1, k2, k3, k4, k5, k6⟩ := sg_row o h2 h1
  have e : k = i := by
    rcases Nat.lt_trichotomy k i with h | h | h
    · have := h3 k h; omega
    · exact h
    · have := k2 i h; omega
  subst e
  rcases (SG_ok k k1).1 with h9 | h9
  · rw [ckN_1 (by omega), h9, k5, k6]
    exact (tkL_1 (K := fun c => .ok (ptC c g (sgR o) fs))).symm
  · rw [ckN_2 (by omega), h9, k5, k6]
    show _ = (tkL f cur (sgA o :: [sgA o])).bind _
    rw [tkL_b]
    congr 1
    funext a
    exact (tkL_1 (K := fun c => .ok (ptC c g (sgR o) fs))).symm
theorem shl_q {x : Int32} {n : Nat} (h1 : x.toInt = n) (h2 : n < 4) : (1 <<< (x &&& 31) : Int32).toInt = ((2 ^ n : Nat) : Int) := by
  have e : x = Int32.ofNat n := by
    rw [z_eq, h1]
    have : n = 0 ∨ n = 1 ∨ n = 2 ∨ n = 3 := by omega
    rcases this with e | e | e | e <;> subst e <;> rfl
  rw [e]
  have : n = 0 ∨ n = 1 ∨ n = 2 ∨ n = 3 := by omega
  rcases this with e | e | e | e <;> subst e <;> rfl
theorem cz_checkNumeric {x : Int32} {Qr : xb_H → Nat → Nat → Prop} (hT : ckT S h0 md rd op ck ca rc rs b C Qt) (hH : ck_H S h0 h md rd op ck cd nt im N oa ca rw it n vs cb iv R0) (hF : ck_Fr S h0 h F) (hc : rc + 1 ≤ bc) (hb : rs + 6 ≤ bs) (hS : ck_S ck oa nt cd im ca rw R0 cb iv F cur (f :: r) ν lo g p lc ty) (hcl : (cur.length : Int) ≤ N) (hg : g ≤ 100000) (hfl : (f :: r).length ≤ 201) (hx : x.toInt ≤ 191) {o : Nat} (hx1 : 69 ≤ o) (hxo : x.toInt = o) (hRC : rcC C R p b) (hR : R = ckN (sp5 f) cur g ((f :: r).map sp5) o)
    (hQ : ∀ (F' : Nat → Nat → Int32) (i : Nat) (c1 cur' : List Int) (g' : Int), i < 30 → (∀ j, j < i → SG (4 * j) < x.toInt) → x.toInt ≤ SG (4 * i) → ck_tkl f cur (List.replicate (SG (4 * i + 1)).toNat (SG (4 * i + 2))) c1 → ck_pt c1 g (SG (4 * i + 3)) cur' g' → ck_Fr S h0 h F' → ck_S ck oa nt cd im ca rw R0 cb iv F' cur' (f :: r) ν lo g' p lc ty → R = .ok (cur', (f :: r).map sp5, g') → Qr (xb_W h F') bc bs) : w_Checker_checkNumeric ck x (xb_W h F) bc bs Qr Qt := by
  have kck : xb_k h ck = 5 := hH.2.2.2.2.2.1
  have hN : N ≤ 65536 := hH.2.2.2.2.2.2.2.2.1
  have key2 : ∀ (i : Nat) (x2 : Int32), i < 30 → x2.toInt = (4 * i : Nat) → (∀ j, j < i → SG (4 * j) < x.toInt) → x.toInt ≤ SG (4 * i) → ∀ (m : Nat) (x3 : Int32) (j : Nat) (F1 : Nat → Nat → Int32) (c : List Int), x3.toInt = j → (j : Int) + m = SG (4 * i + 1) → ck_Fr S h0 h F1 → ck_S ck oa nt cd im ca rw R0 cb iv F1 c (f :: r) ν lo g p lc ty → (c.length : Int) ≤ N → (∀ c1, ck_tkl f c (List.replicate m (SG (4 * i + 2))) c1 → ck_tkl f cur (List.replicate (SG (4 * i + 1)).toNat (SG (4 * i + 2))) c1) → R = (tkL (sp5 f) c (List.replicate m (SG (4 * i + 2)))).bind (fun c => .ok (ptC c g (SG (4 * i + 3)) ((f :: r).map sp5))) → w_Checker_checkNumeric_L33 Qr Qt (m + 1) ck x2 x3 (xb_W h F1) bc bs := by
    intro i x2 hi h2 h3 h4
    obtain ⟨k1, ⟨k2, k3⟩, k4, k5⟩ := SG_ok i hi
    have e1 : (x2 + 1).toInt = (4 * i + 1 : Nat) := z_inc h2 (by omega)
    have e2 : (x2 + 2).toInt = (4 * i + 2 : Nat) := by rw [z_add, h2]; simp only [Int32.reduceToInt]; omega
    have e3 : (x2 + 3).toInt = (4 * i + 3 : Nat) := by rw [z_add, h2]; simp only [Int32.reduceToInt]; omega
    have c1' : (x2 + 1).toNatClampNeg = 4 * i + 1 := by rw [z_cl, e1]; omega
    have c2' : (x2 + 2).toNatClampNeg = 4 * i + 2 := by rw [z_cl, e2]; omega
    have c3' : (x2 + 3).toNatClampNeg = 4 * i + 3 := by rw [z_cl, e3]; omega
    intro m
    induction m with
    | zero =>
      intro x3 j F1 c g1 g2 hF1 hS1 g3 g4 g5
      unfold w_Checker_checkNumeric_L33
      rw [c1', c2', c3']
      refine ⟨by rw [z_in, e1]; omega, fun _ => ⟨by rw [z_in, e3]; omega, kck, cs_put hH hF1 hS1 g3 (by omega) (by have : (xb_cSIG.getD (4 * i + 3) 0).toInt = SG (4 * i + 3) := rfl; omega) (fun F2 cur' g' w hF2 hS2 _ => hQ F2 i c cur' g' hi h3 h4 (g4 c rfl) w hF2 hS2 (by rw [g5, ← ptC_k w]; rfl))⟩, fun e => ?_⟩
      rw [z_le, g1] at e
      have : (xb_cSIG.getD (4 * i + 1) 0).toInt = SG (4 * i + 1) := rfl
      omega
    | succ m ih =>
      intro x3 j F1 c g1 g2 hF1 hS1 g3 g4 g5
      have ex : (x3 + 1).toInt = (j + 1 : Nat) := z_inc g1 (by omega)
      unfold w_Checker_checkNumeric_L33
      rw [c1', c2', c3']
      refine ⟨by rw [z_in, e1]; omega, fun e => ?_, fun _ => ⟨by rw [z_in, e2]; omega, kck, cz_take (K := fun a => (tkL (sp5 f) a.2 (List.replicate m (SG (4 * i + 2)))).bind (fun c => .ok (ptC c g (SG (4 * i + 3)) ((f :: r).map sp5)))) hT hH hF1 hc hb hS1 g3 hfl hRC (by rw [g5, List.replicate_succ]; exact tkL_b) (fun u F2 c2 t2 hF2 hS2 R2 _ => ih (x3 + 1) (j + 1) F2 c2 ex (by omega) hF2 hS2 (by have := t2.len; omega) (fun c1 q => g4 c1 ⟨u.toInt, c2, t2, q⟩) R2)⟩⟩
      rw [z_le, g1] at e
      have : (xb_cSIG.getD (4 * i + 1) 0).toInt = SG (4 * i + 1) := rfl
      omega
  have L31 : ∀ (i : Nat) (x2 : Int32), i < 30 → x2.toInt = (4 * i : Nat) → (∀ j, j < i → SG (4 * j) < x.toInt) → x.toInt ≤ SG (4 * i) → w_Checker_checkNumeric_L31 Qr Qt ck x2 (xb_W h F) bc bs := by
    intro i x2 hi h2 h3 h4
    obtain ⟨k1, -⟩ := SG_ok i hi
    unfold w_Checker_checkNumeric_L31
    exact ⟨(SG (4 * i + 1)).toNat + 1, key2 i x2 hi h2 h3 h4 _ 0 0 F cur rfl (by omega) hF hS hcl (fun _ q => q) (by rw [hR]; exact ckN_i hx1 (by omega) hi (fun j hj => by rw [← hxo]; exact h3 j hj) (by omega))⟩
  have key1 : ∀ (m i : Nat) (x2 x3 : Int32), i + m = 30 → 0 < m → x2.toInt = (4 * i : Nat) → x3.toInt = (4 * i : Nat) → (∀ j, j < i → SG (4 * j) < x.toInt) → w_Checker_checkNumeric_L4 Qr Qt m ck x x2 x3 (xb_W h F) bc bs := by
    intro m
    induction m with
    | zero => intro i x2 x3 _ h9; omega
    | succ m ih =>
      intro i x2 x3 g1 _ g2 g3 g4
      have c3 : x3.toNatClampNeg = 4 * i := by rw [z_cl, g3]; omega
      have e4 : (x3 + 4).toInt = (4 * (i + 1) : Nat) := by rw [z_add, g3]; simp only [Int32.reduceToInt]; omega
      have es : (xb_cSIG.getD (4 * i) 0).toInt = SG (4 * i) := rfl
      unfold w_Checker_checkNumeric_L4
      rw [c3]
      refine ⟨fun e => ?_, fun e => ⟨by rw [z_in, g3]; omega, fun e2 => L31 i x2 (by omega) g2 g4 (by rw [z_le, es] at e2; exact e2), fun e2 v6 e6 => ?_⟩⟩
      · rw [z_le, g3] at e
        simp only [Int32.reduceToInt] at e
        omega
      · rw [z_le, es] at e2
        have hm : 0 < m := by
          by_cases e9 : i = 29
          · subst e9
            have h29 : SG (4 * 29) = 191 := SG_29
            omega
          · omega
        refine ih (i + 1) v6 (x3 + 4) (by omega) hm (by rw [e6]; exact e4) e4 (fun j hj => ?_)
        by_cases ej : j = i
        · subst ej
          omega
        · exact g4 j (by omega)
  unfold w_Checker_checkNumeric
  exact ⟨30, key1 30 0 0 0 rfl (by omega) rfl rfl (fun j hj => by omega)⟩
theorem cz_checkMemory {x : Int32} {q : Nat} {Qr : xb_H → Nat → Nat → Prop} (hT : ckT S h0 md rd op ck ca rc rs b C Qt) (hH : ck_H S h0 h md rd op ck cd nt im N oa ca rw it n vs cb iv R0) (hF : ck_Fr S h0 h F) (hc : rc + 1 ≤ bc) (hb : rs + 6 ≤ bs) (hS : ck_S ck oa nt cd im ca rw R0 cb iv F cur (f :: r) ν lo g q lc ty) (hcl : (cur.length : Int) ≤ N) (hg : g ≤ 100000) (hfl : (f :: r).length ≤ 201) (hx1 : 40 ≤ x.toInt) (hx2 : x.toInt ≤ 64) (hq : x.toInt < 63 → q + 1 < N) {o : Nat} (hxo : x.toInt = o) (hRC : rcC C R q b) (hR : R = ckMm (0 < n 4 / 3) (sp5 f) cur g ((f :: r).map sp5) o (ν (q + 1)).toBitVec.toNat)
    (hQ : ∀ (F' : Nat → Nat → Int32) (cur' : List Int) (g' : Int), 0 < n 4 / 3 → (x.toInt = 63 → ck_pt cur g 127 cur' g') → (x.toInt = 64 → ∃ (r1 : Int) (c1 : List Int), ck_tk f cur 127 r1 c1 ∧ ck_pt c1 g 127 cur' g') → (x.toInt < 54 → ∃ (r1 : Int) (c1 : List Int), ck_tk f cur 127 r1 c1 ∧ ck_pt c1 g (MT (x.toInt - 40).toNat) cur' g') → (54 ≤ x.toInt → x.toInt < 63 → g' = g ∧ ∃ (r1 r2 : Int) (c1 : List Int), ck_tk f cur (MT (x.toInt - 40).toNat) r1 c1 ∧ ck_tk f c1 127 r2 cur') → ck_Fr S h0 h F' → ck_S ck oa nt cd im ca rw R0 cb iv F' cur' (f :: r) ν lo g' q lc ty → R = .ok (cur', (f :: r).map sp5, g') → Qr (xb_W h F') bc bs) : w_Checker_checkMemory ck x (xb_W h F) bc bs Qr Qt := by
  obtain ⟨⟨s1, s2, s3, s4, s5, s6⟩, so, sf, s7, s8, s9, s10, s11, s12⟩ := id hS
  obtain ⟨-, hM', ⟨r0, r1, r2, r3, ko, lo1, lo2⟩, hD, ⟨S1, S2, S3⟩, kck, kmd, ha, hN, ⟨knt, nnt, kcd, ncd⟩⟩ := id hH
  have hM := hM' F ν s7 s9 s10 s11
  have z127 : (127 : Int32).toInt = 127 := rfl
  have L43 : ∀ (F1 : Nat → Nat → Int32) (c : List Int), ck_Fr S h0 h F1 → ck_S ck oa nt cd im ca rw R0 cb iv F1 c (f :: r) ν lo g q lc ty → (c.length : Int) ≤ N → 0 < n 4 / 3 → ((x.toInt = 63 ∧ c = cur) ∨ (x.toInt = 64 ∧ ∃ r1 : Int, ck_tk f cur 127 r1 c)) → R = .ok (ptC c g 127 ((f :: r).map sp5)) → w_Checker_checkMemory_L43 Qr Qt ck (xb_W h F1) bc bs := by
    intro F1 c hF1 hS1 g1 g2 g3 g4
    unfold w_Checker_checkMemory_L43
    refine ⟨kck, cs_put hH hF1 hS1 g1 (by omega) (by rw [z127]; omega) (fun F2 cur' g' w hF2 hS2 _ => hQ F2 cur' g' g2 (fun e => ?_) (fun e => ?_) (fun e => by omega) (fun e => by omega) hF2 hS2 (by rw [g4]; exact congrArg _ (ptC_k w)))⟩
    · rcases g3 with ⟨-, g3⟩ | ⟨g3, -⟩
      · rw [← g3]; exact w
      · omega
    · rcases g3 with ⟨g3, -⟩ | ⟨-, r1, g3⟩
      · omega
      · exact ⟨r1, c, g3, w⟩
  have L93 : x.toInt < 63 → 0 < n 4 / 3 → ∀ (x2 y : Int32), x2.toInt = x.toInt - 40 → (¬ y = 0 → R = ckAc (sp5 f) cur g ((f :: r).map sp5) o) ∧ (y = 0 → R = .error 22) → w_Checker_checkMemory_L93 Qr Qt ck x x2 y ck (xb_W h F) bc bs := by
    intro hx63 hn4 x2 y h2 hy
    have eo : (x.toInt - 40).toNat = o - 40 := by omega
    have es : (F ck 9).toInt = q := s5
    have c2 : x2.toNatClampNeg = (x.toInt - 40).toNat := by rw [z_cl, h2]
    obtain ⟨m1, m2⟩ := MT_ok (x.toInt - 40).toNat (by omega)
    have em : (xb_cMT.getD (x.toInt - 40).toNat 0).toInt = MT (x.toInt - 40).toNat := rfl
    unfold w_Checker_checkMemory_L93 w_Checker_checkMemory_L140
    rw [c2]
    refine ⟨kck, cz_require (K := ckAc (sp5 f) cur g ((f :: r).map sp5) o) (c := 22) hT hH hF hc hb es hRC rfl hy (fun _ R1 _ => ⟨fun e => ⟨kck, cz_take (K := fun b => .ok (ptC b.2 g (MT (o - 40)) ((f :: r).map sp5))) hT hH hF hc hb hS hcl hfl hRC (by rw [z_lt] at e; simp only [Int32.reduceToInt] at e; rw [R1, ckAc_l (by omega)]; rfl) (fun u F1 c1 t1 hF1 hS1 R2 _ => ⟨by rw [z_in, h2]; omega, cs_put hH hF1 hS1 (by have := t1.len; omega) (by omega) (by omega) (fun F2 cur' g' w hF2 hS2 _ => ?_)⟩)⟩, fun e => ⟨by rw [z_in, h2]; omega, kck, cz_take (K := fun a => (tkO (sp5 f) a.2 127).bind (fun b => .ok (b.2, ((f :: r).map sp5), g))) hT hH hF hc hb hS hcl hfl hRC (by rw [z_lt] at e; simp only [Int32.reduceToInt] at e; rw [R1, ckAc_s (by omega), em, eo]) (fun u F1 c1 t1 hF1 hS1 R2 _ => cz_take (cur := c1) (K := fun b => .ok (b.2, ((f :: r).map sp5), g)) hT hH hF1 hc hb hS1 (by have := t1.len; omega) hfl hRC R2 (fun u2 F2 c2 t2 hF2 hS2 R3 _ => ?_))⟩⟩)⟩
    · rw [z_lt] at e
      simp only [Int32.reduceToInt] at e
      exact hQ F2 cur' g' hn4 (fun e => by omega) (fun e => by omega) (fun _ => ⟨u.toInt, c1, t1, w⟩) (fun e => by omega) hF2 hS2 (by rw [em, eo] at w; rw [R2, ← ptC_k w])
    · rw [z_lt] at e
      simp only [Int32.reduceToInt] at e
      exact hQ F2 c2 g hn4 (fun e => by omega) (fun e => by omega) (fun e => by omega) (fun _ _ => ⟨rfl, u.toInt, u2.toInt, c1, t1, t2⟩) hF2 hS2 R3
  have L19 : ∀ y : Int32, (¬ y = 0 → 0 < n 4 / 3) → (y = 0 → ¬ 0 < n 4 / 3) → w_Checker_checkMemory_L19 Qr Qt ck x y ck (xb_W h F) bc bs := by
    intro y hy hy0
    unfold w_Checker_checkMemory_L19 w_Checker_checkMemory_L92
    refine ⟨kck, cz_require (K := ckMx (sp5 f) cur g ((f :: r).map sp5) o (ν (q + 1)).toBitVec.toNat) (c := 20) hT hH hF hc hb s5 hRC rfl ⟨fun h9 => by rw [hR, ckMm_m (hy h9)], fun h9 => by rw [hR, ckMm_20 (hy0 h9)]⟩ (fun y0 R1 _ => ⟨fun e v5 e5 => ?_, fun e => ⟨fun e2 => ?_, fun e2 => ⟨kck, cz_take (K := fun a => .ok (ptC a.2 g 127 ((f :: r).map sp5))) hT hH hF hc hb hS hcl hfl hRC (by rw [z_lt] at e; rw [z_le] at e2; simp only [Int32.reduceToInt] at e e2; rw [R1, ckMx_64 (by omega)]; rfl) (fun u F1 c1 t1 hF1 hS1 R2 _ => ?_)⟩⟩⟩)⟩
    · rw [z_lt] at e
      simp only [Int32.reduceToInt] at e
      have e91 : (F ck 9 + 1).toInt = (q + 1 : Nat) := z_inc s5 (by have := hq e; omega)
      have ev5 : v5.toInt = x.toInt - 40 := by rw [e5, z_sub]; simp only [Int32.reduceToInt]; omega
      have c91 : (F ck 9 + 1).toNatClampNeg = q + 1 := by rw [z_cl, e91]; omega
      have cv5 : v5.toNatClampNeg = o - 40 := by rw [z_cl, ev5]; omega
      have R2 := R1
      rw [ckMx_a (by omega)] at R2
      have em : (xb_cMB.getD (o - 40) 0).toInt = aB o := by
        rw [show (xb_cMB.getD (o - 40) 0).toInt = MB (o - 40) from rfl, MB_a (o - 40) (by omega), show o - 40 + 40 = o by omega]
      have zn := z_nat (ν (q + 1))
      have zr := z_rg (ν (q + 1))
      refine ⟨kck, nt, r2, knt, by rw [z_in, xW_i, e91, xW_n, nnt]; have := hq e; omega, fun v10 e10 => ?_⟩
      rw [xW_i, s7, c91] at e10
      subst e10
      refine ⟨fun k1 => L93 e (hy y0) v5 0 ev5 ⟨fun h9 => absurd rfl h9, fun _ => ?_⟩, fun k1 => ⟨fun k2 => L93 e (hy y0) v5 0 ev5 ⟨fun h9 => absurd rfl h9, fun _ => ?_⟩, fun k2 => ⟨by rw [z_in, ev5]; omega, fun k3 => L93 e (hy y0) v5 0 ev5 ⟨fun h9 => absurd rfl h9, fun _ => ?_⟩, fun k3 => L93 e (hy y0) v5 1 ev5 ⟨fun _ => ?_, fun h9 => absurd h9 (by decide)⟩⟩⟩⟩
      all_goals
        rw [z_lt] at k1
        simp only [Int32.reduceToInt] at k1
      · rw [R2, if_neg (by omega)]
      · rw [z_lt] at k2
        simp only [Int32.reduceToInt] at k2
        rw [R2, if_neg (by omega)]
      all_goals
        rw [z_lt] at k2
        simp only [Int32.reduceToInt] at k2
        have k4 := shl_q (x := ν (q + 1)) (n := (ν (q + 1)).toBitVec.toNat) (by omega) (by omega)
        rw [cv5, z_lt, em, k4] at k3
      · rw [R2, if_neg (by omega)]
      · rw [R2, if_pos (by omega)]
    · rw [z_lt] at e
      rw [z_le] at e2
      simp only [Int32.reduceToInt] at e e2
      exact L43 F cur hF hS hcl (hy y0) (.inl ⟨by omega, rfl⟩) (by rw [R1, ckMx_63 (by omega)])
    · rw [z_lt] at e
      rw [z_le] at e2
      simp only [Int32.reduceToInt] at e e2
      exact L43 F1 c1 hF1 hS1 (by have := t1.len; omega) (hy y0) (.inr ⟨by omega, u.toInt, t1⟩) R2
  unfold w_Checker_checkMemory
  refine ⟨kck, md, r0, kmd, rw 4, hM.row (by omega), hM.krow (by omega), md_lines (c := 3) hM (by omega) rfl (by omega) (fun r7 e7 _ => ⟨fun e => L19 0 (fun h9 => absurd rfl h9) (fun _ => ?_), fun e => L19 1 (fun _ => ?_) (fun h9 => absurd h9 (by decide))⟩)⟩
  all_goals
    rw [z_le, e7] at e
    simp only [Int32.reduceToInt] at e
    omega
end CC9
