-- the checker in a body: branches
section CS7
variable {S : Nat → Prop} {h0 h : xb_H} {md rd op ck cd nt im N oa rc rs : Nat} {ca : Nat → Nat} {rw it n : Nat → Nat} {vs : Nat → Nat → Int64} {cb ν iv lo : Nat → Int32} {R0 F : Nat → Nat → Int32} {bc bs : Nat} {Qt : String → xb_H → Nat → Nat → Prop} {cur : List Int} {fs r : List ckF} {f : ckF} {g p lc ty : Int}
theorem cs_checkBranchIf {q : Nat} {Qr : xb_H → Nat → Nat → Prop} (hT : ck_T S h0 md rd op ck ca rc rs Qt) (hH : ck_H S h0 h md rd op ck cd nt im N oa ca rw it n vs cb iv R0) (hF : ck_Fr S h0 h F) (hc : rc + 1 ≤ bc) (hb : rs + 6 ≤ bs) (hS : ck_S ck oa nt cd im ca rw R0 cb iv F cur (f :: r) ν lo g q lc ty) (hcl : (cur.length : Int) ≤ N) (hg : g ≤ 100000) (hfl : (f :: r).length ≤ 201) (hq : q + 1 < N) (hlb : ∀ x ∈ f :: r, fl_ x = 64 ∨ 124 ≤ fl_ x ∧ fl_ x ≤ 127)
    (hQ : ∀ (F' : Nat → Nat → Int32) (i : Nat) (f' : ckF) (w : Int32) (c1 c2 cur' : List Int) (r1 r2 g' : Int), (ν (q + 1)).toInt = i → (f :: r)[i]? = some f' → w.toInt = fa f' → ck_tk f cur 127 r1 c1 → ck_tk f c1 (fl_ f') r2 c2 → ck_pt c2 g (fl_ f') cur' g' → ck_Fr S h0 h F' → ck_S ck oa nt cd im ca rw R0 cb iv F' cur' (f :: r) (va_up ν (q + 1) w) lo g' q lc ty → Qr (xb_W h F') bc bs) : w_Checker_checkBranchIf ck (xb_W h F) bc bs Qr Qt := by
  have kck : xb_k h ck = 5 := hH.2.2.2.2.2.1
  have hN : N ≤ 65536 := hH.2.2.2.2.2.2.2.2.1
  have ha := hH.2.2.2.2.2.2.2.1
  have a3 : xb_r h ck 12 = some (ca 3) ∧ xb_k h (ca 3) = 102 ∧ xb_n h (ca 3) = 201 ∧ S (ca 3) := ha 3 (by omega)
  have e91 : (F ck 9 + 1).toInt = (q + 1 : Nat) := z_inc hS.1.2.2.2.2.1 (by omega)
  unfold w_Checker_checkBranchIf
  refine ⟨kck, ca 3, a3.1, cs_checkLabel hT hH hF hc hb hS e91 hq hfl (fun u F1 i f' w b1 b2 b3 b4 b5 b6 hF1 hS1 _ => ⟨a3.2.1, by rw [z_in, b3, xW_n, a3.2.2.1]; omega, fun v7 e7 => ?_⟩)⟩
  rw [xW_i, z_cl, b3, Int.toNat_natCast] at e7
  have e7' : v7.toInt = fl_ f' := by rw [e7]; exact b6
  have hl := hlb f' (List.mem_of_getElem? b2)
  refine cs_take hT hH hF1 hc hb hS1 hcl hfl (fun u1 F2 c1 t1 hF2 hS2 _ => cs_take hT hH hF2 hc hb hS2 (by have := t1.len; omega) hfl (fun u2 F3 c2 t2 hF3 hS3 _ => cs_put hH hF3 hS3 (by have := t1.len; have := t2.len; omega) (by omega) (by omega) (fun F4 cur' g' w4 hF4 hS4 _ => hQ F4 i f' w c1 c2 cur' u1.toInt u2.toInt g' b1 b2 b5 t1 ?_ ?_ hF4 hS4)))
  · rw [e7'] at t2
    exact t2
  · rw [e7'] at w4
    exact w4
theorem cs_checkLabels {q L : Nat} {ex : List Int} {Qr : xb_H → Nat → Nat → Prop} (hT : ck_T S h0 md rd op ck ca rc rs Qt) (hH : ck_H S h0 h md rd op ck cd nt im N oa ca rw it n vs cb iv R0) (hF : ck_Fr S h0 h F) (hc : rc + 1 ≤ bc) (hb : rs + 6 ≤ bs) (hS : ck_S ck oa nt cd im ca rw R0 cb iv F cur (f :: r) ν lo g q lc ty) (hcl : (cur.length : Int) ≤ N) (hg : g ≤ 100000) (hfl : (f :: r).length ≤ 201) (hex : cur = ex ++ fb f) (hq : q + 2 + L < N) (hL : (ν (q + 1)).toInt = L)
    (hQ : ∀ (F' : Nat → Nat → Int32) (ν' : Nat → Int32) (lab : Int) (c1 c2 : List Int) (r1 r2 : Int), (∀ j, j < q + 2 ∨ q + 2 + L < j → ν' j = ν j) → (∀ k, k ≤ L → ∃ (i : Nat) (f' : ckF), (ν (q + 2 + k)).toInt = i ∧ (f :: r)[i]? = some f' ∧ (ν' (q + 2 + k)).toInt = fa f' ∧ fl_ f' = lab) → ck_tk f cur 127 r1 c1 → ck_tk f c1 lab r2 c2 → ck_Fr S h0 h F' → ck_S ck oa nt cd im ca rw R0 cb iv F' (fb f) ((fk f, fa f, fl_ f, fe f, fb f, 1, fv f) :: r) ν' lo g q lc ty → Qr (xb_W h F') bc bs) : w_Checker_checkLabels ck (xb_W h F) bc bs Qr Qt := by
  obtain ⟨⟨s1, s2, s3, s4, s5, s6⟩, so, sf, s7, s8, s9, s10, s11, s12⟩ := id hS
  obtain ⟨-, -, ⟨r0, r1, r2, r3, ko, lo1, lo2⟩, hD, ⟨S1, S2, S3⟩, kck, kmd, ha, hN, ⟨knt, nnt, kcd, ncd⟩⟩ := id hH
  have a3 : xb_r h ck 12 = some (ca 3) ∧ xb_k h (ca 3) = 102 ∧ xb_n h (ca 3) = 201 ∧ S (ca 3) := ha 3 (by omega)
  have e91 : (F ck 9 + 1).toInt = (q + 1 : Nat) := z_inc s5 (by omega)
  have c91 : (F ck 9 + 1).toNatClampNeg = q + 1 := by rw [z_cl, e91]; omega
  have e92 : (F ck 9 + 2).toInt = (q + 2 : Nat) := by rw [z_add, s5]; simp only [Int32.reduceToInt]; omega
  have hrl : r.length ≤ 200 := by simp only [List.length_cons] at hfl; omega
  have hfr : (f :: r).length = r.length + 1 := by simp
  -- the second loop
  have key2 : ∀ (m : Nat) (x3 : Int32) (j : Nat) (F1 : Nat → Nat → Int32) (ν1 : Nat → Int32) (x1 v9 : Int32), x1.toInt = (q + 2 + L : Nat) → x3.toInt = (q + 2 + j : Nat) → j ≤ L + 1 → L + 1 - j ≤ m → ck_Fr S h0 h F1 → ck_S ck oa nt cd im ca rw R0 cb iv F1 cur (f :: r) ν1 lo g q lc ty → (∀ t, t < q + 2 ∨ q + 2 + j ≤ t → ν1 t = ν t) → (∀ k, k < j → ∃ (i : Nat) (f' : ckF), (ν (q + 2 + k)).toInt = i ∧ (f :: r)[i]? = some f' ∧ (ν1 (q + 2 + k)).toInt = fa f' ∧ fl_ f' = v9.toInt) → w_Checker_checkLabels_L83 Qr Qt (m + 1) ck x1 v9 x3 (xb_W h F1) bc bs := by
    intro m
    induction m with
    | zero =>
      intro x3 j F1 ν1 x1 v9 g1 g2 g3 g4 hF1 hS1 g5 g6
      unfold w_Checker_checkLabels_L83
      refine ⟨fun e => ⟨kck, cs_take hT hH hF1 hc hb hS1 hcl hfl (fun u1 F2 c1 t1 hF2 hS2 _ => cs_take hT hH hF2 hc hb hS2 (by have := t1.len; omega) hfl (fun u2 F3 c2 t2 hF3 hS3 _ => ?_))⟩, fun e => ?_⟩
      · obtain ⟨ex1, he1⟩ := t1.lt hex
        obtain ⟨ex2, he2⟩ := t2.lt he1
        exact cs_die hH hF3 hS3 he2 hfl (fun F4 hF4 hS4 _ => hQ F4 ν1 v9.toInt c1 c2 u1.toInt u2.toInt (fun t ht => g5 t (by omega)) (fun k hk => g6 k (by omega)) t1 t2 hF4 hS4)
      · rw [z_lt, g1, g2] at e
        omega
    | succ m ih =>
      intro x3 j F1 ν1 x1 v9 g1 g2 g3 g4 hF1 hS1 g5 g6
      unfold w_Checker_checkLabels_L83
      refine ⟨fun e => ⟨kck, cs_take hT hH hF1 hc hb hS1 hcl hfl (fun u1 F2 c1 t1 hF2 hS2 _ => cs_take hT hH hF2 hc hb hS2 (by have := t1.len; omega) hfl (fun u2 F3 c2 t2 hF3 hS3 _ => ?_))⟩, fun e => ⟨kck, ca 3, a3.1, cs_checkLabel (k := q + 2 + j) hT hH hF1 hc hb hS1 g2 (by rw [z_lt, g1, g2] at e; omega) hfl (fun u F2 i f' w b1 b2 b3 b4 b5 b6 hF2 hS2 _ => ⟨a3.2.1, by rw [z_in, b3, xW_n, a3.2.2.1]; omega, fun w1 => ?_, fun w1 => ?_⟩)⟩⟩
      · rw [z_lt, g1, g2] at e
        obtain ⟨ex1, he1⟩ := t1.lt hex
        obtain ⟨ex2, he2⟩ := t2.lt he1
        exact cs_die hH hF3 hS3 he2 hfl (fun F4 hF4 hS4 _ => hQ F4 ν1 v9.toInt c1 c2 u1.toInt u2.toInt (fun t ht => g5 t (by omega)) (fun k hk => g6 k (by omega)) t1 t2 hF4 hS4)
      · unfold w_Checker_checkLabels_L108
        exact ⟨kck, cs_require hT hH hF2 hc hb (fun h9 => absurd rfl h9)⟩
      · rw [z_lt, g1, g2] at e
        rw [xW_i, z_cl, b3, Int.toNat_natCast] at w1
        have hlab : fl_ f' = v9.toInt := by rw [← b6, w1]
        have ex3 : (x3 + 1).toInt = (q + 2 + (j + 1) : Nat) := z_inc (k := q + 2 + j) g2 (by omega)
        unfold w_Checker_checkLabels_L108
        refine ⟨kck, cs_require hT hH hF2 hc hb (fun _ _ => ih (x3 + 1) (j + 1) F2 _ x1 v9 g1 ex3 (by omega) (by omega) hF2 hS2 (fun t ht => ?_) (fun k hk => ?_))⟩
        · rw [xh_up, if_neg (by omega)]
          exact g5 t (by omega)
        · by_cases ek : k = j
          · subst ek
            refine ⟨i, f', ?_, b2, ?_, hlab⟩
            · rw [← g5 (q + 2 + k) (by omega)]
              exact b1
            · rw [xh_up, if_pos rfl]
              exact b5
          · obtain ⟨i', f'', y1, y2, y3, y4⟩ := g6 k (by omega)
            refine ⟨i', f'', y1, y2, ?_, y4⟩
            rw [xh_up, if_neg (by omega)]
            exact y3
  -- the first loop
  have key1 : ∀ (m : Nat) (x2 : Int32) (j : Nat) (x1 : Int32), x1.toInt = (q + 2 + L : Nat) → x2.toInt = (q + 2 + j : Nat) → j ≤ L + 1 → L + 1 - j ≤ m → (∀ k, k < j → 0 ≤ (ν (q + 2 + k)).toInt ∧ (ν (q + 2 + k)).toInt < (f :: r).length) → w_Checker_checkLabels_L26 Qr Qt (m + 1) ck x1 x2 (xb_W h F) bc bs := by
    have fin : ∀ x1 : Int32, x1.toInt = (q + 2 + L : Nat) → (∀ k, k < L + 1 → 0 ≤ (ν (q + 2 + k)).toInt ∧ (ν (q + 2 + k)).toInt < (f :: r).length) → xb_k (xb_W h F) ck = 5 ∧ ∃ b3 : Nat, (xb_r (xb_W h F) ck 12) = some b3 ∧ ∃ b4 : Nat, (xb_r (xb_W h F) ck 2) = some b4 ∧ xb_k (xb_W h F) b4 = 102 ∧ vp_in x1 (xb_n (xb_W h F) b4) ∧ xb_k (xb_W h F) b3 = 102 ∧ vp_in (((xb_i (xb_W h F) ck 16) - 1) - (xb_i (xb_W h F) b4 (Int32.toNatClampNeg x1))) (xb_n (xb_W h F) b3) ∧ ∀ v9 : Int32, v9 = (xb_i (xb_W h F) b3 (Int32.toNatClampNeg (((xb_i (xb_W h F) ck 16) - 1) - (xb_i (xb_W h F) b4 (Int32.toNatClampNeg x1))))) → ∀ v10 : Int32, v10 = ((xb_i (xb_W h F) ck 9) + 2) → (∃ n8 : Nat, w_Checker_checkLabels_L83 Qr Qt n8 ck x1 v9 v10 (xb_W h F) bc bs) := by
      intro x1 h1 h2
      have cx : x1.toNatClampNeg = q + 2 + L := by rw [z_cl, h1]; omega
      obtain ⟨y1, y2⟩ := h2 L (by omega)
      have e9 : (F ck 16 - 1).toInt = r.length := by rw [z_sub, s6, hfr]; simp only [Int32.reduceToInt]; omega
      have e10 : (F ck 16 - 1 - ν (q + 2 + L)).toInt = r.length - (ν (q + 2 + L)).toInt := by rw [z_sub, e9]; omega
      refine ⟨kck, ca 3, a3.1, nt, r2, knt, by rw [z_in, h1, xW_n, nnt]; omega, a3.2.1, ?_, fun v9 _ v10 e10' => ⟨L + 1 + 1, ?_⟩⟩
      · rw [xW_i, s7, cx, z_in, e10, xW_n, a3.2.2.1]
        omega
      · rw [xW_i] at e10'
        exact key2 (L + 1) v10 0 F ν x1 v9 h1 (by rw [e10', e92]) (by omega) (by omega) hF hS (fun t _ => rfl) (fun k hk => by omega)
    intro m
    induction m with
    | zero =>
      intro x2 j x1 g1 g2 g3 g4 g5
      unfold w_Checker_checkLabels_L26
      refine ⟨fun e => fin x1 g1 (fun k hk => g5 k (by omega)), fun e => ?_⟩
      rw [z_lt, g1, g2] at e
      omega
    | succ m ih =>
      intro x2 j x1 g1 g2 g3 g4 g5
      have c2 : x2.toNatClampNeg = q + 2 + j := by rw [z_cl, g2]; omega
      have ex2 : (x2 + 1).toInt = (q + 2 + (j + 1) : Nat) := z_inc (k := q + 2 + j) g2 (by omega)
      unfold w_Checker_checkLabels_L26
      refine ⟨fun e => fin x1 g1 (fun k hk => g5 k (by rw [z_lt, g1, g2] at e; omega)), fun e => ⟨kck, nt, r2, knt, by rw [z_lt, g1, g2] at e; rw [z_in, g2, xW_n, nnt]; omega, ?_⟩⟩
      rw [z_lt, g1, g2] at e
      rw [xW_i, s7, c2]
      refine sp_isThere (fun r16 e16 _ => cs_require hT hH hF hc hb (fun w1 _ => ih (x2 + 1) (j + 1) x1 g1 ex2 (by omega) (by omega) (fun k hk => ?_)))
      rcases e16 with ⟨w2, -⟩ | ⟨-, w2, w3⟩
      · exact absurd w2 w1
      rw [Z_of32] at w2 w3
      rw [s6] at w3
      by_cases ek : k = j
      · subst ek
        exact ⟨w2, w3⟩
      · exact g5 k (by omega)
  unfold w_Checker_checkLabels
  refine ⟨kck, nt, r2, knt, by rw [z_in, xW_i, e91, xW_n, nnt]; omega, fun v5 e5 v6 e6 => ⟨L + 1 + 1, ?_⟩⟩
  rw [xW_i, s7, c91] at e5
  rw [xW_i] at e6
  refine key1 (L + 1) v6 0 v5 ?_ (by rw [e6, e92]) (by omega) (by omega) (fun k hk => by omega)
  rw [e5, z_add, e92, hL]
  omega
end CS7
