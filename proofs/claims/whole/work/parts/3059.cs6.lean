-- the checker in a body: else, end, branches
section CS6
variable {S : Nat → Prop} {h0 h : xb_H} {md rd op ck cd nt im N oa rc rs : Nat} {ca : Nat → Nat} {rw it n : Nat → Nat} {vs : Nat → Nat → Int64} {cb ν iv lo : Nat → Int32} {R0 F : Nat → Nat → Int32} {bc bs : Nat} {Qt : String → xb_H → Nat → Nat → Prop} {cur : List Int} {fs r : List ckF} {f : ckF} {g p lc ty : Int}
theorem ck_tk.lt {f : ckF} {cur cur' : List Int} {x r : Int} (h : ck_tk f cur x r cur') {ex : List Int} (he : cur = ex ++ fb f) : ∃ ex', cur' = ex' ++ fb f := by
  rcases h with ⟨-, -, e⟩ | ⟨-, e, el, -⟩ | ⟨-, -, -, -, e⟩
  · exact ⟨ex, e.trans he⟩
  · match ex, he with
    | [], he =>
      rw [he] at e
      simp only [List.nil_append] at e
      rw [e] at el
      simp at el
      omega
    | a :: ex', he =>
      rw [he] at e
      simp only [List.cons_append] at e
      exact ⟨ex', ((List.cons.inj e).2).symm⟩
  · exact ⟨ex, e.trans he⟩
theorem ck_suf {ex base : List Int} {c : List Int} (h : c = ex ++ base) (hl : c.length = base.length) : c = base := by
  have h1 : ex.length = 0 := by
    have h2 := congrArg List.length h
    simp at h2
    omega
  have h3 : ex = [] := List.eq_nil_of_length_eq_zero h1
  rw [h, h3]
  rfl
theorem cs_checkElse {Qr : xb_H → Nat → Nat → Prop} {ex : List Int} (lv : Bool) (hT : ck_T S h0 md rd op ck ca rc rs Qt) (hH : ck_H S h0 h md rd op ck cd nt im N oa ca rw it n vs cb iv R0) (hF : ck_Fr S h0 h F) (hc : rc + 1 ≤ bc) (hb : rs + 6 ≤ bs) (hS : ck_S ck oa nt cd im ca rw R0 cb iv F cur (f :: r) ν lo g p lc ty) (hcl : (cur.length : Int) ≤ N) (hg : g ≤ 100000) (hfl : (f :: r).length ≤ 201) (hex : cur = ex ++ fb f)
    (hQ : ∀ (F' : Nat → Nat → Int32) (r3 : Int), ck_tk f cur (fe f) r3 (fb f) → ck_Fr S h0 h F' → ck_S ck oa nt cd im ca rw R0 cb iv F' (fb f) ((5, fa f, fe f, fe f, fb f, 0, lv) :: r) ν lo g p lc ty → Qr (xb_W h F') bc bs) : w_Checker_checkElse ck (xb_W h F) bc bs Qr Qt := by
  obtain ⟨⟨s1, s2, s3, s4, s5, s6⟩, so, sf, s7, s8, s9, s10, s11, s12⟩ := id hS
  obtain ⟨-, -, -, hD, ⟨S1, S2, S3⟩, kck, kmd, ha, hN, -⟩ := id hH
  obtain ⟨⟨f1, f2, f3, f4, f5, f6⟩, sr⟩ := id sf
  have a2 : xb_r h ck 11 = some (ca 2) ∧ xb_k h (ca 2) = 102 ∧ xb_n h (ca 2) = 201 ∧ S (ca 2) := ha 2 (by omega)
  have a4 : xb_r h ck 13 = some (ca 4) ∧ xb_k h (ca 4) = 102 ∧ xb_n h (ca 4) = 201 ∧ S (ca 4) := ha 4 (by omega)
  have a5 : xb_r h ck 14 = some (ca 5) ∧ xb_k h (ca 5) = 102 ∧ xb_n h (ca 5) = 201 ∧ S (ca 5) := ha 5 (by omega)
  have hrl : r.length ≤ 200 := by simp only [List.length_cons] at hfl; omega
  have sub16 : ∀ F1 : Nat → Nat → Int32, (F1 ck 16).toInt = (f :: r).length → (F1 ck 16 - 1).toInt = r.length := by
    intro F1 h1
    rw [z_sub, h1]
    simp only [Int32.reduceToInt, List.length_cons]
    omega
  unfold w_Checker_checkElse
  refine ⟨kck, ca 4, a4.1, a4.2.1, by rw [z_in, xW_i, sub16 F s6, xW_n, a4.2.2.1]; omega, fun v5 e5 => ?_⟩
  rw [xW_i, z_cl, sub16 F s6, Int.toNat_natCast] at e5
  have e5' : v5.toInt = fe f := by rw [e5]; exact f4
  refine cs_take hT hH hF hc hb hS hcl hfl (fun u F1 c1 t1 hF1 hS1 _ => ?_)
  obtain ⟨⟨u1, u2, u3, u4, u5, u6⟩, uo, uf, u7, u8, u9, u10, u11, u12⟩ := id hS1
  obtain ⟨⟨d1, d2, d3, d4, d5, d6⟩, ur⟩ := id uf
  refine ⟨ca 5, a5.1, a5.2.1, by rw [z_in, xW_i, sub16 F1 u6, xW_n, a5.2.2.1]; omega, fun q => ?_, fun q => ?_⟩
  · unfold w_Checker_checkElse_L42
    exact ⟨kck, cs_require hT hH hF1 hc hb (fun h9 => absurd rfl h9)⟩
  · rw [xW_i, z_cl, sub16 F1 u6, Int.toNat_natCast, z_eq, u1, d5] at q
    obtain ⟨ex', he'⟩ := t1.lt hex
    have hcb : c1 = fb f := ck_suf he' (by omega)
    subst hcb
    unfold w_Checker_checkElse_L42
    refine ⟨kck, cs_require hT hH hF1 hc hb (fun _ _ => ⟨kck, fun h5 e5 => ?_⟩)⟩
    rw [xW_i, xW_I] at e5
    subst e5
    have hS2 : ck_S ck oa nt cd im ca rw R0 cb iv (va_up F1 ck (va_up (F1 ck) 16 (F1 ck 16 - 1))) (fb f) r ν lo g p lc ty := hS1.upk hD ⟨by rw [xh_up, if_neg (by omega)]; exact u1, by rw [xh_up, if_neg (by omega)]; exact u2, by rw [xh_up, if_neg (by omega)]; exact u3, by rw [xh_up, if_neg (by omega)]; exact u4, by rw [xh_up, if_neg (by omega)]; exact u5, by rw [xh_up, if_pos rfl]; exact sub16 F1 u6⟩ uo ur u12
    obtain ⟨F2, hF2e⟩ : ∃ X, X = va_up F1 ck (va_up (F1 ck) 16 (F1 ck 16 - 1)) := ⟨_, rfl⟩
    rw [← hF2e] at hS2 ⊢
    have hF2 : ck_Fr S h0 h F2 := by rw [hF2e]; exact hF1.up (.inl S1)
    have w16 := hS2.1.2.2.2.2.2
    have wc2 : F2 (ca 2) = F1 (ca 2) := by rw [hF2e, xh_up, if_neg (hD.2.2.2.1 2 (by omega)).1]
    refine ⟨ca 2, a2.1, a2.2.1, by rw [z_in, xW_i, w16, xW_n, a2.2.2.1]; omega, cs_openThing lv hH hF2 hS2 hrl (fun F3 hF3 hS3 _ => hQ F3 u.toInt (by rw [e5'] at t1; exact t1) hF3 ?_)⟩
    rw [xW_i, z_cl, w16, Int.toNat_natCast, wc2, e5'] at hS3
    have d2' : (F1 (ca 2) r.length).toInt = fa f := d2
    rw [d2'] at hS3
    exact hS3
theorem cs_checkEnd {Qr : xb_H → Nat → Nat → Prop} {ex : List Int} (hT : ck_T S h0 md rd op ck ca rc rs Qt) (hH : ck_H S h0 h md rd op ck cd nt im N oa ca rw it n vs cb iv R0) (hF : ck_Fr S h0 h F) (hc : rc + 1 ≤ bc) (hb : rs + 6 ≤ bs) (hS : ck_S ck oa nt cd im ca rw R0 cb iv F cur (f :: r) ν lo g p lc ty) (hcl : (cur.length : Int) ≤ N) (hg : g ≤ 100000) (hfl : (f :: r).length ≤ 201) (hex : cur = ex ++ fb f) (hfe : fe f = 64 ∨ 124 ≤ fe f ∧ fe f ≤ 127)
    (hQ : ∀ (F' : Nat → Nat → Int32) (r3 g' : Int) (cur' : List Int), ck_tk f cur (fe f) r3 (fb f) → (fk f = 4 → fe f = 64) → ck_pt (fb f) g (fe f) cur' g' → ck_Fr S h0 h F' → ck_S ck oa nt cd im ca rw R0 cb iv F' cur' r ν lo g' p lc ty → Qr (xb_W h F') bc bs) : w_Checker_checkEnd ck (xb_W h F) bc bs Qr Qt := by
  obtain ⟨⟨s1, s2, s3, s4, s5, s6⟩, so, sf, s7, s8, s9, s10, s11, s12⟩ := id hS
  obtain ⟨-, -, -, hD, ⟨S1, S2, S3⟩, kck, kmd, ha, hN, -⟩ := id hH
  obtain ⟨⟨f1, f2, f3, f4, f5, f6⟩, sr⟩ := id sf
  have a1 : xb_r h ck 10 = some (ca 1) ∧ xb_k h (ca 1) = 102 ∧ xb_n h (ca 1) = 201 ∧ S (ca 1) := ha 1 (by omega)
  have a4 : xb_r h ck 13 = some (ca 4) ∧ xb_k h (ca 4) = 102 ∧ xb_n h (ca 4) = 201 ∧ S (ca 4) := ha 4 (by omega)
  have a5 : xb_r h ck 14 = some (ca 5) ∧ xb_k h (ca 5) = 102 ∧ xb_n h (ca 5) = 201 ∧ S (ca 5) := ha 5 (by omega)
  have hrl : r.length ≤ 200 := by simp only [List.length_cons] at hfl; omega
  have sub16 : ∀ F1 : Nat → Nat → Int32, (F1 ck 16).toInt = (f :: r).length → (F1 ck 16 - 1).toInt = r.length := by
    intro F1 h1
    rw [z_sub, h1]
    simp only [Int32.reduceToInt, List.length_cons]
    omega
  unfold w_Checker_checkEnd
  refine ⟨kck, ca 4, a4.1, a4.2.1, by rw [z_in, xW_i, sub16 F s6, xW_n, a4.2.2.1]; omega, fun v5 e5 => ?_⟩
  rw [xW_i, z_cl, sub16 F s6, Int.toNat_natCast] at e5
  have e5' : v5.toInt = fe f := by rw [e5]; exact f4
  refine cs_take hT hH hF hc hb hS hcl hfl (fun u F1 c1 t1 hF1 hS1 _ => ?_)
  obtain ⟨⟨u1, u2, u3, u4, u5, u6⟩, uo, uf, u7, u8, u9, u10, u11, u12⟩ := id hS1
  obtain ⟨⟨d1, d2, d3, d4, d5, d6⟩, ur⟩ := id uf
  have l1 := t1.len
  refine ⟨ca 5, a5.1, a5.2.1, by rw [z_in, xW_i, sub16 F1 u6, xW_n, a5.2.2.1]; omega, fun q => ?_, fun q => ?_⟩
  · unfold w_Checker_checkEnd_L42
    exact ⟨kck, cs_require hT hH hF1 hc hb (fun h9 => absurd rfl h9)⟩
  · rw [xW_i, z_cl, sub16 F1 u6, Int.toNat_natCast, z_eq, u1, d5] at q
    obtain ⟨ex', he'⟩ := t1.lt hex
    have hcb : c1 = fb f := ck_suf he' (by omega)
    subst hcb
    have d1' : (F1 (ca 1) r.length).toInt = fk f := d1
    have L74 : (fk f = 4 → fe f = 64) → w_Checker_checkEnd_L74 Qr Qt ck v5 1 ck (xb_W h F1) bc bs := by
      intro hk
      unfold w_Checker_checkEnd_L74
      refine ⟨kck, cs_require hT hH hF1 hc hb (fun _ _ => ⟨kck, fun h5 e5 => ?_⟩)⟩
      rw [xW_i, xW_I] at e5
      subst e5
      have hS2 : ck_S ck oa nt cd im ca rw R0 cb iv (va_up F1 ck (va_up (F1 ck) 16 (F1 ck 16 - 1))) (fb f) r ν lo g p lc ty := hS1.upk hD ⟨by rw [xh_up, if_neg (by omega)]; exact u1, by rw [xh_up, if_neg (by omega)]; exact u2, by rw [xh_up, if_neg (by omega)]; exact u3, by rw [xh_up, if_neg (by omega)]; exact u4, by rw [xh_up, if_neg (by omega)]; exact u5, by rw [xh_up, if_pos rfl]; exact sub16 F1 u6⟩ uo ur u12
      refine cs_put hH (hF1.up (.inl S1)) hS2 (by omega) (by omega) (by omega) (fun F3 cur' g' w hF3 hS3 _ => hQ F3 u.toInt g' cur' (by rw [e5'] at t1; exact t1) hk ?_ hF3 hS3)
      rw [e5'] at w
      exact w
    unfold w_Checker_checkEnd_L42
    refine ⟨kck, cs_require hT hH hF1 hc hb (fun _ _ => ⟨kck, ca 1, a1.1, a1.2.1, by rw [z_in, xW_i, sub16 F1 u6, xW_n, a1.2.2.1]; omega, fun w1 => L74 (fun h9 => ?_), fun w1 => ⟨fun w2 => ?_, fun w2 => L74 (fun _ => ?_)⟩⟩)⟩
    · exfalso
      apply w1
      rw [xW_i, z_cl, sub16 F1 u6, Int.toNat_natCast, z_eq, d1', h9]
      rfl
    · unfold w_Checker_checkEnd_L74
      exact ⟨kck, cs_require hT hH hF1 hc hb (fun h9 => absurd rfl h9)⟩
    · rw [← e5', w2]
      rfl
end CS6
