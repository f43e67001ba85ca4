-- equality: the class's checker, exact: ends, labels
section CC8
variable {S : Nat → Prop} {h0 h : xb_H} {md rd op ck cd nt im N oa rc rs b : Nat} {ca : Nat → Nat} {rw it n : Nat → Nat} {vs : Nat → Nat → Int64} {cb ν iv lo : Nat → Int32} {R0 F : Nat → Nat → Int32} {bc bs : Nat} {Qt : String → xb_H → Nat → Nat → Prop} {cur : List Int} {fs r : List ckF} {f : ckF} {g p lc ty : Int} {C : Option (Nat × Nat)} {R : Except Nat cO}
theorem labR {fs : List s5} {i : Nat} (h : i < fs.length) : R = (labO fs i).bind (fun _ => R) := by
  unfold labO
  rw [List.getElem?_eq_getElem h]
  rfl
theorem cz_checkElse {Qr : xb_H → Nat → Nat → Prop} {ex : List Int} (lv : Bool) (hT : ckT S h0 md rd op ck ca rc rs b C Qt) (hH : ck_H S h0 h md rd op ck cd nt im N oa ca rw it n vs cb iv R0) (hF : ck_Fr S h0 h F) (hc : rc + 1 ≤ bc) (hb : rs + 6 ≤ bs) (hS : ck_S ck oa nt cd im ca rw R0 cb iv F cur (f :: r) ν lo g p lc ty) (hcl : (cur.length : Int) ≤ N) (hg : g ≤ 100000) (hfl : (f :: r).length ≤ 201) (hex : cur = ex ++ fb f) {X : Except Nat cO} (hRC : rcC C R p b) (hR : R = (cl5 (sp5 f) cur).bind (fun _ => X))
    (hQ : ∀ (F' : Nat → Nat → Int32) (r3 : Int), ck_tk f cur (fe f) r3 (fb f) → ck_Fr S h0 h F' → ck_S ck oa nt cd im ca rw R0 cb iv F' (fb f) ((5, fa f, fe f, fe f, fb f, 0, lv) :: r) ν lo g p lc ty → R = X → Qr (xb_W h F') bc bs) : w_Checker_checkElse ck (xb_W h F) bc bs Qr Qt := by
  obtain ⟨⟨s1, s2, s3, s4, s5, s6⟩, so, sf, s7, s8, s9, s10, s11, s12⟩ := id hS
  obtain ⟨-, -, -, hD, ⟨S1, S2, S3⟩, kck, kmd, ha, hN, -⟩ := id hH
  obtain ⟨⟨f1, f2, f3, f4, f5, f6⟩, sr⟩ := id sf
  have a2 : xb_r h ck 11 = some (ca 2) ∧ xb_k h (ca 2) = 102 ∧ xb_n h (ca 2) = 201 ∧ S (ca 2) := ha 2 (by omega)
  have a4 : xb_r h ck 13 = some (ca 4) ∧ xb_k h (ca 4) = 102 ∧ xb_n h (ca 4) = 201 ∧ S (ca 4) := ha 4 (by omega)
  have a5 : xb_r h ck 14 = some (ca 5) ∧ xb_k h (ca 5) = 102 ∧ xb_n h (ca 5) = 201 ∧ S (ca 5) := ha 5 (by omega)
  have hrl : r.length ≤ 200 := by simp only [List.length_cons] at hfl; omega
  have sub16 : ∀ F1 : Nat → Nat → Int32, (F1 ck 16).toInt = (f :: r).length → (F1 ck 16 - 1).toInt = r.length := by
    intro F1 h1
    rw [z_sub, h1]
    simp only [Int32.reduceToInt, List.length_cons]
    omega
  unfold w_Checker_checkElse
  refine ⟨kck, ca 4, a4.1, a4.2.1, by rw [z_in, xW_i, sub16 F s6, xW_n, a4.2.2.1]; omega, fun v5 e5 => ?_⟩
  rw [xW_i, z_cl, sub16 F s6, Int.toNat_natCast] at e5
  have e5' : v5.toInt = fe f := by rw [e5]; exact f4
  refine cz_take (K := fun a => (if a.2.length = (fb f).length then (.ok () : Except Nat Unit) else .error 21).bind (fun _ => X)) hT hH hF hc hb hS hcl hfl hRC (by rw [hR, e5']; unfold cl5; rw [ebA]; rfl) (fun u F1 c1 t1 hF1 hS1 R1 _ => ?_)
  obtain ⟨⟨u1, u2, u3, u4, u5, u6⟩, uo, uf, u7, u8, u9, u10, u11, u12⟩ := id hS1
  obtain ⟨⟨d1, d2, d3, d4, d5, d6⟩, ur⟩ := id uf
  refine ⟨ca 5, a5.1, a5.2.1, by rw [z_in, xW_i, sub16 F1 u6, xW_n, a5.2.2.1]; omega, fun q => ?_, fun q => ?_⟩
  · unfold w_Checker_checkElse_L42
    rw [xW_i, z_cl, sub16 F1 u6, Int.toNat_natCast, z_eq, u1, d5] at q
    exact ⟨kck, cz_require (K := R) (c := 21) hT hH hF1 hc hb u5 hRC rfl ⟨fun h9 => absurd rfl h9, fun _ => by rw [R1, if_neg (by show ¬ c1.length = (fb f).length; omega)]; rfl⟩ (fun h9 => absurd rfl h9)⟩
  · rw [xW_i, z_cl, sub16 F1 u6, Int.toNat_natCast, z_eq, u1, d5] at q
    obtain ⟨ex', he'⟩ := t1.lt hex
    have hcb : c1 = fb f := ck_suf he' (by omega)
    subst hcb
    unfold w_Checker_checkElse_L42
    refine ⟨kck, cz_require (K := X) (c := 21) hT hH hF1 hc hb u5 hRC rfl ⟨fun _ => by rw [R1, if_pos rfl]; rfl, fun h9 => absurd h9 (by decide)⟩ (fun _ R2 _ => ⟨kck, fun h5 e5 => ?_⟩)⟩
    rw [xW_i, xW_I] at e5
    subst e5
    have hS2 : ck_S ck oa nt cd im ca rw R0 cb iv (va_up F1 ck (va_up (F1 ck) 16 (F1 ck 16 - 1))) (fb f) r ν lo g p lc ty := hS1.upk hD ⟨by rw [xh_up, if_neg (by omega)]; exact u1, by rw [xh_up, if_neg (by omega)]; exact u2, by rw [xh_up, if_neg (by omega)]; exact u3, by rw [xh_up, if_neg (by omega)]; exact u4, by rw [xh_up, if_neg (by omega)]; exact u5, by rw [xh_up, if_pos rfl]; exact sub16 F1 u6⟩ uo ur u12
    obtain ⟨F2, hF2e⟩ : ∃ X, X = va_up F1 ck (va_up (F1 ck) 16 (F1 ck 16 - 1)) := ⟨_, rfl⟩
    rw [← hF2e] at hS2 ⊢
    have hF2 : ck_Fr S h0 h F2 := by rw [hF2e]; exact hF1.up (.inl S1)
    have w16 := hS2.1.2.2.2.2.2
    have wc2 : F2 (ca 2) = F1 (ca 2) := by rw [hF2e, xh_up, if_neg (hD.2.2.2.1 2 (by omega)).1]
    refine ⟨ca 2, a2.1, a2.2.1, by rw [z_in, xW_i, w16, xW_n, a2.2.2.1]; omega, cs_openThing lv hH hF2 hS2 hrl (fun F3 hF3 hS3 _ => hQ F3 u.toInt (by rw [e5'] at t1; exact t1) hF3 ?_ R2)⟩
    rw [xW_i, z_cl, w16, Int.toNat_natCast, wc2, e5'] at hS3
    have d2' : (F1 (ca 2) r.length).toInt = fa f := d2
    rw [d2'] at hS3
    exact hS3
theorem cz_checkEnd {Qr : xb_H → Nat → Nat → Prop} {ex : List Int} (hT : ckT S h0 md rd op ck ca rc rs b C Qt) (hH : ck_H S h0 h md rd op ck cd nt im N oa ca rw it n vs cb iv R0) (hF : ck_Fr S h0 h F) (hc : rc + 1 ≤ bc) (hb : rs + 6 ≤ bs) (hS : ck_S ck oa nt cd im ca rw R0 cb iv F cur (f :: r) ν lo g p lc ty) (hcl : (cur.length : Int) ≤ N) (hg : g ≤ 100000) (hfl : (f :: r).length ≤ 201) (hex : cur = ex ++ fb f) (hfe : fe f = 64 ∨ 124 ≤ fe f ∧ fe f ≤ 127) (hRC : rcC C R p b) (hR : R = (cl5 (sp5 f) cur).bind (fun _ => if fk f = 4 ∧ ¬ fe f = 64 then .error 21 else .ok (ptC (fb f) g (fe f) (r.map sp5))))
    (hQ : ∀ (F' : Nat → Nat → Int32) (r3 g' : Int) (cur' : List Int), ck_tk f cur (fe f) r3 (fb f) → (fk f = 4 → fe f = 64) → ck_pt (fb f) g (fe f) cur' g' → ck_Fr S h0 h F' → ck_S ck oa nt cd im ca rw R0 cb iv F' cur' r ν lo g' p lc ty → R = .ok (cur', r.map sp5, g') → Qr (xb_W h F') bc bs) : w_Checker_checkEnd ck (xb_W h F) bc bs Qr Qt := by
  obtain ⟨⟨s1, s2, s3, s4, s5, s6⟩, so, sf, s7, s8, s9, s10, s11, s12⟩ := id hS
  obtain ⟨-, -, -, hD, ⟨S1, S2, S3⟩, kck, kmd, ha, hN, -⟩ := id hH
  obtain ⟨⟨f1, f2, f3, f4, f5, f6⟩, sr⟩ := id sf
  have a1 : xb_r h ck 10 = some (ca 1) ∧ xb_k h (ca 1) = 102 ∧ xb_n h (ca 1) = 201 ∧ S (ca 1) := ha 1 (by omega)
  have a4 : xb_r h ck 13 = some (ca 4) ∧ xb_k h (ca 4) = 102 ∧ xb_n h (ca 4) = 201 ∧ S (ca 4) := ha 4 (by omega)
  have a5 : xb_r h ck 14 = some (ca 5) ∧ xb_k h (ca 5) = 102 ∧ xb_n h (ca 5) = 201 ∧ S (ca 5) := ha 5 (by omega)
  have hrl : r.length ≤ 200 := by simp only [List.length_cons] at hfl; omega
  have sub16 : ∀ F1 : Nat → Nat → Int32, (F1 ck 16).toInt = (f :: r).length → (F1 ck 16 - 1).toInt = r.length := by
    intro F1 h1
    rw [z_sub, h1]
    simp only [Int32.reduceToInt, List.length_cons]
    omega
  unfold w_Checker_checkEnd
  refine ⟨kck, ca 4, a4.1, a4.2.1, by rw [z_in, xW_i, sub16 F s6, xW_n, a4.2.2.1]; omega, fun v5 e5 => ?_⟩
  rw [xW_i, z_cl, sub16 F s6, Int.toNat_natCast] at e5
  have e5' : v5.toInt = fe f := by rw [e5]; exact f4
  refine cz_take (K := fun a => (if a.2.length = (fb f).length then (.ok () : Except Nat Unit) else .error 21).bind (fun _ => (if fk f = 4 ∧ ¬ fe f = 64 then (.error 21 : Except Nat cO) else .ok (ptC (fb f) g (fe f) (r.map sp5))))) hT hH hF hc hb hS hcl hfl hRC (by rw [hR, e5']; unfold cl5; rw [ebA]; rfl) (fun u F1 c1 t1 hF1 hS1 R1 _ => ?_)
  obtain ⟨⟨u1, u2, u3, u4, u5, u6⟩, uo, uf, u7, u8, u9, u10, u11, u12⟩ := id hS1
  obtain ⟨⟨d1, d2, d3, d4, d5, d6⟩, ur⟩ := id uf
  have l1 := t1.len
  refine ⟨ca 5, a5.1, a5.2.1, by rw [z_in, xW_i, sub16 F1 u6, xW_n, a5.2.2.1]; omega, fun q => ?_, fun q => ?_⟩
  · unfold w_Checker_checkEnd_L42
    rw [xW_i, z_cl, sub16 F1 u6, Int.toNat_natCast, z_eq, u1, d5] at q
    exact ⟨kck, cz_require (K := R) (c := 21) hT hH hF1 hc hb u5 hRC rfl ⟨fun h9 => absurd rfl h9, fun _ => by rw [R1, if_neg (by show ¬ c1.length = (fb f).length; omega)]; rfl⟩ (fun h9 => absurd rfl h9)⟩
  · rw [xW_i, z_cl, sub16 F1 u6, Int.toNat_natCast, z_eq, u1, d5] at q
    obtain ⟨ex', he'⟩ := t1.lt hex
    have hcb : c1 = fb f := ck_suf he' (by omega)
    subst hcb
    have d1' : (F1 (ca 1) r.length).toInt = fk f := d1
    have R2 : R = (if fk f = 4 ∧ ¬ fe f = 64 then (.error 21 : Except Nat cO) else .ok (ptC (fb f) g (fe f) (r.map sp5))) := by rw [R1, if_pos rfl]; rfl
    have L74 : (fk f = 4 → fe f = 64) → w_Checker_checkEnd_L74 Qr Qt ck v5 1 ck (xb_W h F1) bc bs := by
      intro hk
      unfold w_Checker_checkEnd_L74
      have R3 : R = .ok (ptC (fb f) g (fe f) (r.map sp5)) := by rw [R2, if_neg (fun h9 => h9.2 (hk h9.1))]
      refine ⟨kck, cz_require (K := R) (c := 21) hT hH hF1 hc hb u5 hRC rfl ⟨fun _ => rfl, fun h9 => absurd h9 (by decide)⟩ (fun _ _ _ => ⟨kck, fun h5 e5 => ?_⟩)⟩
      rw [xW_i, xW_I] at e5
      subst e5
      have hS2 : ck_S ck oa nt cd im ca rw R0 cb iv (va_up F1 ck (va_up (F1 ck) 16 (F1 ck 16 - 1))) (fb f) r ν lo g p lc ty := hS1.upk hD ⟨by rw [xh_up, if_neg (by omega)]; exact u1, by rw [xh_up, if_neg (by omega)]; exact u2, by rw [xh_up, if_neg (by omega)]; exact u3, by rw [xh_up, if_neg (by omega)]; exact u4, by rw [xh_up, if_neg (by omega)]; exact u5, by rw [xh_up, if_pos rfl]; exact sub16 F1 u6⟩ uo ur u12
      refine cs_put hH (hF1.up (.inl S1)) hS2 (by omega) (by omega) (by omega) (fun F3 cur' g' w hF3 hS3 _ => hQ F3 u.toInt g' cur' (by rw [e5'] at t1; exact t1) hk ?_ hF3 hS3 ?_)
      · rw [e5'] at w
        exact w
      · rw [e5'] at w
        rw [R3, ptC_k w]
    unfold w_Checker_checkEnd_L42
    refine ⟨kck, cz_require (K := R) (c := 21) hT hH hF1 hc hb u5 hRC rfl ⟨fun _ => rfl, fun h9 => absurd h9 (by decide)⟩ (fun _ _ _ => ⟨kck, ca 1, a1.1, a1.2.1, by rw [z_in, xW_i, sub16 F1 u6, xW_n, a1.2.2.1]; omega, fun w1 => L74 (fun h9 => ?_), fun w1 => ⟨fun w2 => ?_, fun w2 => L74 (fun _ => ?_)⟩⟩)⟩
    · exfalso
      apply w1
      rw [xW_i, z_cl, sub16 F1 u6, Int.toNat_natCast, z_eq, d1', h9]
      rfl
    · unfold w_Checker_checkEnd_L74
      refine ⟨kck, cz_require (K := R) (c := 21) hT hH hF1 hc hb u5 hRC rfl ⟨fun h9 => absurd rfl h9, fun _ => ?_⟩ (fun h9 => absurd rfl h9)⟩
      have hk4 : fk f = 4 := by
        rw [xW_i, z_cl, sub16 F1 u6, Int.toNat_natCast, z_eq, d1'] at w1
        exact w1
      rw [R2, if_pos ⟨hk4, fun h8 => w2 (by rw [z_eq, e5', h8]; rfl)⟩]
    · rw [← e5', w2]
      rfl
theorem cz_checkBranchIf {q : Nat} {Qr : xb_H → Nat → Nat → Prop} (hT : ckT S h0 md rd op ck ca rc rs b C Qt) (hH : ck_H S h0 h md rd op ck cd nt im N oa ca rw it n vs cb iv R0) (hF : ck_Fr S h0 h F) (hc : rc + 1 ≤ bc) (hb : rs + 6 ≤ bs) (hS : ck_S ck oa nt cd im ca rw R0 cb iv F cur (f :: r) ν lo g q lc ty) (hcl : (cur.length : Int) ≤ N) (hg : g ≤ 100000) (hfl : (f :: r).length ≤ 201) (hq : q + 1 < N) (hlb : ∀ x ∈ f :: r, fl_ x = 64 ∨ 124 ≤ fl_ x ∧ fl_ x ≤ 127) (hRC : rcC C R q b) (hR : R = (labO ((f :: r).map sp5) (ν (q + 1)).toBitVec.toNat).bind (fun l => (tkO (sp5 f) cur 127).bind (fun a => (tkO (sp5 f) a.2 l).bind (fun b => .ok (ptC b.2 g l ((f :: r).map sp5))))))
    (hQ : ∀ (F' : Nat → Nat → Int32) (i : Nat) (f' : ckF) (w : Int32) (c1 c2 cur' : List Int) (r1 r2 g' : Int), (ν (q + 1)).toInt = i → (f :: r)[i]? = some f' → w.toInt = fa f' → ck_tk f cur 127 r1 c1 → ck_tk f c1 (fl_ f') r2 c2 → ck_pt c2 g (fl_ f') cur' g' → ck_Fr S h0 h F' → ck_S ck oa nt cd im ca rw R0 cb iv F' cur' (f :: r) (va_up ν (q + 1) w) lo g' q lc ty → R = .ok (cur', (f :: r).map sp5, g') → Qr (xb_W h F') bc bs) : w_Checker_checkBranchIf ck (xb_W h F) bc bs Qr Qt := by
  have kck : xb_k h ck = 5 := hH.2.2.2.2.2.1
  have hN : N ≤ 65536 := hH.2.2.2.2.2.2.2.2.1
  have ha := hH.2.2.2.2.2.2.2.1
  have a3 : xb_r h ck 12 = some (ca 3) ∧ xb_k h (ca 3) = 102 ∧ xb_n h (ca 3) = 201 ∧ S (ca 3) := ha 3 (by omega)
  have e91 : (F ck 9 + 1).toInt = (q + 1 : Nat) := z_inc hS.1.2.2.2.2.1 (by omega)
  unfold w_Checker_checkBranchIf
  refine ⟨kck, ca 3, a3.1, cz_checkLabel hT hH hF hc hb hS e91 hq hfl hRC hR (fun u F1 i f' w b1 b2 b3 b4 b5 b6 hF1 hS1 R1 _ => ⟨a3.2.1, by rw [z_in, b3, xW_n, a3.2.2.1]; omega, fun v7 e7 => ?_⟩)⟩
  rw [xW_i, z_cl, b3, Int.toNat_natCast] at e7
  have e7' : v7.toInt = fl_ f' := by rw [e7]; exact b6
  have hl := hlb f' (List.mem_of_getElem? b2)
  refine cz_take (K := fun a => (tkO (sp5 f) a.2 (fl_ f')).bind (fun b => .ok (ptC b.2 g (fl_ f') ((f :: r).map sp5)))) hT hH hF1 hc hb hS1 hcl hfl hRC R1 (fun u1 F2 c1 t1 hF2 hS2 R2 _ => cz_take (cur := c1) (K := fun b => .ok (ptC b.2 g (fl_ f') ((f :: r).map sp5))) hT hH hF2 hc hb hS2 (by have := t1.len; omega) hfl hRC (by rw [e7']; exact R2) (fun u2 F3 c2 t2 hF3 hS3 R3 _ => cs_put hH hF3 hS3 (by have := t1.len; have := t2.len; omega) (by omega) (by omega) (fun F4 cur' g' w4 hF4 hS4 _ => hQ F4 i f' w c1 c2 cur' u1.toInt u2.toInt g' b1 b2 b5 t1 ?_ ?_ hF4 hS4 ?_)))
  · rw [e7'] at t2
    exact t2
  · rw [e7'] at w4
    exact w4
  · rw [e7'] at w4
    rw [R3]
    show Except.ok (ptC c2 g (fl_ f') _) = _
    rw [ptC_k w4]
theorem cz_checkLabels {q L : Nat} {ex : List Int} {Qr : xb_H → Nat → Nat → Prop} (hT : ckT S h0 md rd op ck ca rc rs b C Qt) (hH : ck_H S h0 h md rd op ck cd nt im N oa ca rw it n vs cb iv R0) (hF : ck_Fr S h0 h F) (hc : rc + 1 ≤ bc) (hb : rs + 6 ≤ bs) (hS : ck_S ck oa nt cd im ca rw R0 cb iv F cur (f :: r) ν lo g q lc ty) (hcl : (cur.length : Int) ≤ N) (hg : g ≤ 100000) (hfl : (f :: r).length ≤ 201) (hex : cur = ex ++ fb f) (hq : q + 2 + L < N) (hL : (ν (q + 1)).toInt = L) (hRC : rcC C R q b) {X : Except Nat cO} (hR : R = (lb1 ((f :: r).map sp5) (fun k => (ν (q + 2 + k)).toBitVec.toNat) L).bind (fun l => (tkO (sp5 f) cur 127).bind (fun a => (tkO (sp5 f) a.2 l).bind (fun _ => X))))
    (hQ : ∀ (F' : Nat → Nat → Int32) (ν' : Nat → Int32) (lab : Int) (c1 c2 : List Int) (r1 r2 : Int), (∀ j, j < q + 2 ∨ q + 2 + L < j → ν' j = ν j) → (∀ k, k ≤ L → ∃ (i : Nat) (f' : ckF), (ν (q + 2 + k)).toInt = i ∧ (f :: r)[i]? = some f' ∧ (ν' (q + 2 + k)).toInt = fa f' ∧ fl_ f' = lab) → ck_tk f cur 127 r1 c1 → ck_tk f c1 lab r2 c2 → ck_Fr S h0 h F' → ck_S ck oa nt cd im ca rw R0 cb iv F' (fb f) ((fk f, fa f, fl_ f, fe f, fb f, 1, fv f) :: r) ν' lo g q lc ty → R = X → Qr (xb_W h F') bc bs) : w_Checker_checkLabels ck (xb_W h F) bc bs Qr Qt := by
  obtain ⟨⟨s1, s2, s3, s4, s5, s6⟩, so, sf, s7, s8, s9, s10, s11, s12⟩ := id hS
  obtain ⟨-, -, ⟨r0, r1, r2, r3, ko, lo1, lo2⟩, hD, ⟨S1, S2, S3⟩, kck, kmd, ha, hN, ⟨knt, nnt, kcd, ncd⟩⟩ := id hH
  have a3 : xb_r h ck 12 = some (ca 3) ∧ xb_k h (ca 3) = 102 ∧ xb_n h (ca 3) = 201 ∧ S (ca 3) := ha 3 (by omega)
  have e91 : (F ck 9 + 1).toInt = (q + 1 : Nat) := z_inc s5 (by omega)
  have c91 : (F ck 9 + 1).toNatClampNeg = q + 1 := by rw [z_cl, e91]; omega
  have e92 : (F ck 9 + 2).toInt = (q + 2 : Nat) := by rw [z_add, s5]; simp only [Int32.reduceToInt]; omega
  have hrl : r.length ≤ 200 := by simp only [List.length_cons] at hfl; omega
  have hfr : (f :: r).length = r.length + 1 := by simp
  have hlen5 : ((f :: r).map sp5).length = (f :: r).length := List.length_map _
  have nn : ∀ j, 0 ≤ (ν j).toInt → ((ν j).toBitVec.toNat : Int) = (ν j).toInt := fun j hj => by have := z_nat (ν j); have := z_rg (ν j); omega
  have ltf : ∀ {j i : Nat} {f' : ckF}, (ν j).toInt = i → (f :: r)[i]? = some f' → lty5 ((f :: r).map sp5) (ν j).toBitVec.toNat = fl_ f' := fun {j i f'} h1 h2 => by
    have := nn j (by omega)
    rw [show (ν j).toBitVec.toNat = i by omega]
    exact lty5_s h2
  -- the second loop
  have key2 : ∀ (m : Nat) (x3 : Int32) (j : Nat) (F1 : Nat → Nat → Int32) (ν1 : Nat → Int32) (x1 v9 : Int32), x1.toInt = (q + 2 + L : Nat) → x3.toInt = (q + 2 + j : Nat) → j ≤ L + 1 → L + 1 - j ≤ m → ck_Fr S h0 h F1 → ck_S ck oa nt cd im ca rw R0 cb iv F1 cur (f :: r) ν1 lo g q lc ty → (∀ t, t < q + 2 ∨ q + 2 + j ≤ t → ν1 t = ν t) → (∀ k, k < j → ∃ (i : Nat) (f' : ckF), (ν (q + 2 + k)).toInt = i ∧ (f :: r)[i]? = some f' ∧ (ν1 (q + 2 + k)).toInt = fa f' ∧ fl_ f' = v9.toInt) → (∀ k, k ≤ L → (ν (q + 2 + k)).toBitVec.toNat < (f :: r).length) → lty5 ((f :: r).map sp5) (ν (q + 2 + L)).toBitVec.toNat = v9.toInt → w_Checker_checkLabels_L83 Qr Qt (m + 1) ck x1 v9 x3 (xb_W h F1) bc bs := by
    intro m
    induction m with
    | zero =>
      intro x3 j F1 ν1 x1 v9 g1 g2 g3 g4 hF1 hS1 g5 g6 g7 g8
      have RA : L + 1 ≤ j → R = (tkO (sp5 f) cur 127).bind (fun a => (tkO (sp5 f) a.2 v9.toInt).bind (fun _ => X)) := fun hj => by
        have all : ∀ k, k ≤ L → lty5 ((f :: r).map sp5) (ν (q + 2 + k)).toBitVec.toNat = v9.toInt := fun k hk => by
          obtain ⟨i, f', y1, y2, y3, y4⟩ := g6 k (by omega)
          rw [ltf y1 y2]
          exact y4
        rw [hR, lb1_g (fun k hk => by rw [hlen5]; exact g7 k hk) (fun k hk => by rw [all k hk, all 0 (by omega)]), all 0 (by omega)]
        rfl
      unfold w_Checker_checkLabels_L83
      refine ⟨fun e => ⟨kck, cz_take (K := fun a => (tkO (sp5 f) a.2 v9.toInt).bind (fun _ => X)) hT hH hF1 hc hb hS1 hcl hfl hRC (RA (by rw [z_lt, g1, g2] at e; omega)) (fun u1 F2 c1 t1 hF2 hS2 R2 _ => cz_take (cur := c1) (K := fun _ => X) hT hH hF2 hc hb hS2 (by have := t1.len; omega) hfl hRC R2 (fun u2 F3 c2 t2 hF3 hS3 R3 _ => ?_))⟩, fun e => ?_⟩
      · obtain ⟨ex1, he1⟩ := t1.lt hex
        obtain ⟨ex2, he2⟩ := t2.lt he1
        exact cs_die hH hF3 hS3 he2 hfl (fun F4 hF4 hS4 _ => hQ F4 ν1 v9.toInt c1 c2 u1.toInt u2.toInt (fun t ht => g5 t (by omega)) (fun k hk => g6 k (by omega)) t1 t2 hF4 hS4 R3)
      · rw [z_lt, g1, g2] at e
        omega
    | succ m ih =>
      intro x3 j F1 ν1 x1 v9 g1 g2 g3 g4 hF1 hS1 g5 g6 g7 g8
      have RA : L + 1 ≤ j → R = (tkO (sp5 f) cur 127).bind (fun a => (tkO (sp5 f) a.2 v9.toInt).bind (fun _ => X)) := fun hj => by
        have all : ∀ k, k ≤ L → lty5 ((f :: r).map sp5) (ν (q + 2 + k)).toBitVec.toNat = v9.toInt := fun k hk => by
          obtain ⟨i, f', y1, y2, y3, y4⟩ := g6 k (by omega)
          rw [ltf y1 y2]
          exact y4
        rw [hR, lb1_g (fun k hk => by rw [hlen5]; exact g7 k hk) (fun k hk => by rw [all k hk, all 0 (by omega)]), all 0 (by omega)]
        rfl
      unfold w_Checker_checkLabels_L83
      refine ⟨fun e => ⟨kck, cz_take (K := fun a => (tkO (sp5 f) a.2 v9.toInt).bind (fun _ => X)) hT hH hF1 hc hb hS1 hcl hfl hRC (RA (by rw [z_lt, g1, g2] at e; omega)) (fun u1 F2 c1 t1 hF2 hS2 R2 _ => cz_take (cur := c1) (K := fun _ => X) hT hH hF2 hc hb hS2 (by have := t1.len; omega) hfl hRC R2 (fun u2 F3 c2 t2 hF3 hS3 R3 _ => ?_))⟩, fun e => ⟨kck, ca 3, a3.1, cz_checkLabel (k := q + 2 + j) (K := fun _ => R) hT hH hF1 hc hb hS1 g2 (by rw [z_lt, g1, g2] at e; omega) hfl hRC (labR (by rw [z_lt, g1, g2] at e; rw [hlen5, g5 (q + 2 + j) (by omega)]; exact g7 j (by omega))) (fun u F2 i f' w b1 b2 b3 b4 b5 b6 hF2 hS2 _ _ => ⟨a3.2.1, by rw [z_in, b3, xW_n, a3.2.2.1]; omega, fun w1 => ?_, fun w1 => ?_⟩)⟩⟩
      · rw [z_lt, g1, g2] at e
        obtain ⟨ex1, he1⟩ := t1.lt hex
        obtain ⟨ex2, he2⟩ := t2.lt he1
        exact cs_die hH hF3 hS3 he2 hfl (fun F4 hF4 hS4 _ => hQ F4 ν1 v9.toInt c1 c2 u1.toInt u2.toInt (fun t ht => g5 t (by omega)) (fun k hk => g6 k (by omega)) t1 t2 hF4 hS4 R3)
      · unfold w_Checker_checkLabels_L108
        rw [z_lt, g1, g2] at e
        rw [xW_i, z_cl, b3, Int.toNat_natCast] at w1
        rw [g5 (q + 2 + j) (by omega)] at b1
        have hdf : ¬ fl_ f' = v9.toInt := fun h9 => w1 (by rw [z_eq, b6, h9])
        refine ⟨kck, cz_require (K := R) (c := 21) hT hH hF2 hc hb hS2.1.2.2.2.2.1 hRC rfl ⟨fun h9 => absurd rfl h9, fun _ => ?_⟩ (fun h9 => absurd rfl h9)⟩
        rw [hR, lb1_21 (fun k hk => by rw [hlen5]; exact g7 k hk) ?_]
        · rfl
        · by_cases h9 : lty5 ((f :: r).map sp5) (ν (q + 2 + j)).toBitVec.toNat = lty5 ((f :: r).map sp5) (ν (q + 2 + 0)).toBitVec.toNat
          · refine ⟨L, Nat.le_refl _, fun h8 => hdf ?_⟩
            rw [← ltf b1 b2, h9, ← h8]
            exact g8
          · exact ⟨j, by omega, h9⟩
      · rw [z_lt, g1, g2] at e
        rw [xW_i, z_cl, b3, Int.toNat_natCast] at w1
        have hlab : fl_ f' = v9.toInt := by rw [← b6, w1]
        have ex3 : (x3 + 1).toInt = (q + 2 + (j + 1) : Nat) := z_inc (k := q + 2 + j) g2 (by omega)
        unfold w_Checker_checkLabels_L108
        refine ⟨kck, cz_require (K := R) (c := 21) hT hH hF2 hc hb hS2.1.2.2.2.2.1 hRC rfl ⟨fun _ => rfl, fun h9 => absurd h9 (by decide)⟩ (fun _ _ _ => ih (x3 + 1) (j + 1) F2 _ x1 v9 g1 ex3 (by omega) (by omega) hF2 hS2 (fun t ht => ?_) (fun k hk => ?_) g7 g8)⟩
        · rw [xh_up, if_neg (by omega)]
          exact g5 t (by omega)
        · by_cases ek : k = j
          · subst ek
            refine ⟨i, f', ?_, b2, ?_, hlab⟩
            · rw [← g5 (q + 2 + k) (by omega)]
              exact b1
            · rw [xh_up, if_pos rfl]
              exact b5
          · obtain ⟨i', f'', y1, y2, y3, y4⟩ := g6 k (by omega)
            refine ⟨i', f'', y1, y2, ?_, y4⟩
            rw [xh_up, if_neg (by omega)]
            exact y3
  -- the first loop
  have key1 : ∀ (m : Nat) (x2 : Int32) (j : Nat) (x1 : Int32), x1.toInt = (q + 2 + L : Nat) → x2.toInt = (q + 2 + j : Nat) → j ≤ L + 1 → L + 1 - j ≤ m → (∀ k, k < j → 0 ≤ (ν (q + 2 + k)).toInt ∧ (ν (q + 2 + k)).toInt < (f :: r).length) → w_Checker_checkLabels_L26 Qr Qt (m + 1) ck x1 x2 (xb_W h F) bc bs := by
    have fin : ∀ x1 : Int32, x1.toInt = (q + 2 + L : Nat) → (∀ k, k < L + 1 → 0 ≤ (ν (q + 2 + k)).toInt ∧ (ν (q + 2 + k)).toInt < (f :: r).length) → xb_k (xb_W h F) ck = 5 ∧ ∃ b3 : Nat, (xb_r (xb_W h F) ck 12) = some b3 ∧ ∃ b4 : Nat, (xb_r (xb_W h F) ck 2) = some b4 ∧ xb_k (xb_W h F) b4 = 102 ∧ vp_in x1 (xb_n (xb_W h F) b4) ∧ xb_k (xb_W h F) b3 = 102 ∧ vp_in (((xb_i (xb_W h F) ck 16) - 1) - (xb_i (xb_W h F) b4 (Int32.toNatClampNeg x1))) (xb_n (xb_W h F) b3) ∧ ∀ v9 : Int32, v9 = (xb_i (xb_W h F) b3 (Int32.toNatClampNeg (((xb_i (xb_W h F) ck 16) - 1) - (xb_i (xb_W h F) b4 (Int32.toNatClampNeg x1))))) → ∀ v10 : Int32, v10 = ((xb_i (xb_W h F) ck 9) + 2) → (∃ n8 : Nat, w_Checker_checkLabels_L83 Qr Qt n8 ck x1 v9 v10 (xb_W h F) bc bs) := by
      intro x1 h1 h2
      have cx : x1.toNatClampNeg = q + 2 + L := by rw [z_cl, h1]; omega
      obtain ⟨y1, y2⟩ := h2 L (by omega)
      have e9 : (F ck 16 - 1).toInt = r.length := by rw [z_sub, s6, hfr]; simp only [Int32.reduceToInt]; omega
      have e10 : (F ck 16 - 1 - ν (q + 2 + L)).toInt = r.length - (ν (q + 2 + L)).toInt := by rw [z_sub, e9]; omega
      obtain ⟨fL, hfL, -, -, hfL4, -⟩ := cf_o.at (i := (ν (q + 2 + L)).toInt.toNat) (by omega) sf
      refine ⟨kck, ca 3, a3.1, nt, r2, knt, by rw [z_in, h1, xW_n, nnt]; omega, a3.2.1, ?_, fun v9 e9' v10 e10' => ⟨L + 1 + 1, ?_⟩⟩
      · rw [xW_i, s7, cx, z_in, e10, xW_n, a3.2.2.1]
        omega
      · rw [xW_i] at e10'
        refine key2 (L + 1) v10 0 F ν x1 v9 h1 (by rw [e10', e92]) (by omega) (by omega) hF hS (fun t _ => rfl) (fun k hk => by omega) (fun k hk => by have := h2 k (by omega); have := nn (q + 2 + k) this.1; omega) ?_
        rw [ltf (i := (ν (q + 2 + L)).toInt.toNat) (by omega) hfL, e9', xW_i, s7, cx, z_cl, e10]
        rw [← hfL4]
        congr 2
        omega
    intro m
    induction m with
    | zero =>
      intro x2 j x1 g1 g2 g3 g4 g5
      unfold w_Checker_checkLabels_L26
      refine ⟨fun e => fin x1 g1 (fun k hk => g5 k (by omega)), fun e => ?_⟩
      rw [z_lt, g1, g2] at e
      omega
    | succ m ih =>
      intro x2 j x1 g1 g2 g3 g4 g5
      have c2 : x2.toNatClampNeg = q + 2 + j := by rw [z_cl, g2]; omega
      have ex2 : (x2 + 1).toInt = (q + 2 + (j + 1) : Nat) := z_inc (k := q + 2 + j) g2 (by omega)
      unfold w_Checker_checkLabels_L26
      refine ⟨fun e => fin x1 g1 (fun k hk => g5 k (by rw [z_lt, g1, g2] at e; omega)), fun e => ⟨kck, nt, r2, knt, by rw [z_lt, g1, g2] at e; rw [z_in, g2, xW_n, nnt]; omega, ?_⟩⟩
      rw [z_lt, g1, g2] at e
      rw [xW_i, s7, c2]
      refine sp_isThere (fun r16 e16 _ => cz_require (K := R) (c := 20) hT hH hF hc hb s5 hRC rfl ⟨fun _ => rfl, fun w1 => ?_⟩ (fun w1 _ _ => ih (x2 + 1) (j + 1) x1 g1 ex2 (by omega) (by omega) (fun k hk => ?_)))
      · rw [hR, lb1_20 ⟨j, by omega, fun h9 => ?_⟩]
        · rfl
        · rcases e16 with ⟨-, w2⟩ | ⟨w2, -⟩
          · rw [Z_of32, s6] at w2
            rw [hlen5] at h9
            have := z_nat (ν (q + 2 + j))
            have := z_rg (ν (q + 2 + j))
            omega
          · rw [w1] at w2
            exact absurd w2 (by decide)
      rcases e16 with ⟨w2, -⟩ | ⟨-, w2, w3⟩
      · exact absurd w2 w1
      rw [Z_of32] at w2 w3
      rw [s6] at w3
      by_cases ek : k = j
      · subst ek
        exact ⟨w2, w3⟩
      · exact g5 k (by omega)
  unfold w_Checker_checkLabels
  refine ⟨kck, nt, r2, knt, by rw [z_in, xW_i, e91, xW_n, nnt]; omega, fun v5 e5 v6 e6 => ⟨L + 1 + 1, ?_⟩⟩
  rw [xW_i, s7, c91] at e5
  rw [xW_i] at e6
  refine key1 (L + 1) v6 0 v5 ?_ (by rw [e6, e92]) (by omega) (by omega) (fun k hk => by omega)
  rw [e5, z_add, e92, hL]
  omega
end CC8
