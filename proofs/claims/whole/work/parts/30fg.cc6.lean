-- equality: the class's checker, exact: types are taken
/-- a fault of R is C, at the place p -/
def rcC (C : Option (Nat × Nat)) (R : Except Nat cO) (p : Int) (b : Nat) : Prop := ∀ c, R = .error c → ∃ w : Nat, C = some (c, w) ∧ p + b = w
section CC7
variable {S : Nat → Prop} {h0 h : xb_H} {md rd op ck cd nt im N oa rc rs b : Nat} {ca : Nat → Nat} {rw it n : Nat → Nat} {vs : Nat → Nat → Int64} {cb ν iv lo : Nat → Int32} {R0 F : Nat → Nat → Int32} {bc bs : Nat} {Qt : String → xb_H → Nat → Nat → Prop} {cur : List Int} {fs r : List ckF} {f : ckF} {g p lc ty : Int} {C : Option (Nat × Nat)} {R : Except Nat cO}
theorem cz_fail {x1 x2 : Int32} {c : Nat} {Qr : xb_H → Nat → Nat → Prop} (hT : ckT S h0 md rd op ck ca rc rs b C Qt) (hH : ck_H S h0 h md rd op ck cd nt im N oa ca rw it n vs cb iv R0) (hF : ck_Fr S h0 h F) (hc : rc + 1 ≤ bc) (hb : rs + 6 ≤ bs) (hRC : rcC C R p b) (hR : R = .error c) (h1 : x1.toInt = c) (h2 : x2.toInt = p) : w_StackModule_fail md x1 x2 (xb_W h F) bc bs Qr Qt := by
  obtain ⟨w, hC, hw⟩ := hRC c hR
  have hX := hH.1 F hF
  unfold w_StackModule_fail
  refine ⟨hX.2.2.1, fun h2' e2 h3 e3 => ⟨by omega, by omega, hT h3 _ _ ?_ (by omega) (by omega) ⟨(c, w), hC, ?_, ?_⟩⟩⟩
  · rw [e3, e2]
    exact hX.mdI.mdI
  · rw [e3, e2, xh_iI, if_pos rfl, xh_up, if_neg (by decide), xh_iI, if_pos rfl, xh_up, if_pos rfl]
    exact h1
  · rw [e3, xh_iI, if_pos rfl, xh_up, if_pos rfl, h2]
    exact hw
theorem ptC_k {c c' : List Int} {x g' : Int} {fs : List s5} (h : ck_pt c g x c' g') : ptC c g x fs = (c', fs, g') := ptC_p h
theorem cz_take {x : Int32} {K : Int × List Int → Except Nat cO} {Qr : Int32 → xb_H → Nat → Nat → Prop} (hT : ckT S h0 md rd op ck ca rc rs b C Qt) (hH : ck_H S h0 h md rd op ck cd nt im N oa ca rw it n vs cb iv R0) (hF : ck_Fr S h0 h F) (hc : rc + 1 ≤ bc) (hb : rs + 6 ≤ bs) (hS : ck_S ck oa nt cd im ca rw R0 cb iv F cur (f :: r) ν lo g p lc ty) (hcl : (cur.length : Int) ≤ N) (hfl : (f :: r).length ≤ 201) (hRC : rcC C R p b) (hR : R = (tkO (sp5 f) cur x.toInt).bind K)
    (hQ : ∀ (u : Int32) (F' : Nat → Nat → Int32) (cur' : List Int), ck_tk f cur x.toInt u.toInt cur' → ck_Fr S h0 h F' → ck_S ck oa nt cd im ca rw R0 cb iv F' cur' (f :: r) ν lo g p lc ty → R = K (u.toInt, cur') → Qr u (xb_W h F') bc bs) : w_Checker_take ck x (xb_W h F) bc bs Qr Qt := by
  obtain ⟨⟨s1, s2, s3, s4, s5, s6⟩, so, sf, s7, s8, s9, s10, s11, s12⟩ := id hS
  obtain ⟨-, -, ⟨r0, r1, r2, r3, ko, lo1, lo2⟩, ⟨⟨D1, D2, D3, D4⟩, ⟨D5, D6, D7⟩, D8, D9, D10, D11⟩, ⟨S1, S2, S3⟩, kck, kmd, ha, hN, -⟩ := id hH
  have h5 := ha 5 (by omega)
  have h6 := ha 6 (by omega)
  simp only [show ((5 : Nat) = 0) = False by simp, show ((6 : Nat) = 0) = False by simp, if_false, show ((5 : Nat) = 6) = False by simp, if_true] at h5 h6
  have e16 : (F ck 16 - 1).toInt = r.length := by rw [z_sub, s6]; simp only [Int32.reduceToInt, List.length_cons]; simp only [List.length_cons] at hfl; omega
  have c16 : (F ck 16 - 1).toNatClampNeg = r.length := by rw [z_cl, e16]; omega
  obtain ⟨⟨f1, f2, f3, f4, f5, f6⟩, sr⟩ := id sf
  unfold w_Checker_take w_Checker_take_L102 w_Checker_take_L54
  refine ⟨fun e => ⟨kck, ca 5, h5.1, h5.2.1, by rw [z_in, xW_i, e16, xW_n, h5.2.2.1]; simp only [List.length_cons] at hfl; omega, fun g1 => ?_, fun g1 => ?_⟩, fun e => ?_⟩
  · rw [xW_i, c16, z_lt, f5, s1] at g1
    rw [z_eq] at e
    simp only [Int32.reduceToInt] at e
    match cur, s1, so, s12, hcl, hS, g1, hR with
    | [], s1, so, s12, hcl, hS, g1, hR => simp at g1; omega
    | t :: c', s1, so, s12, hcl, hS, g1, hR =>
      have e4 : (F ck 4 - 1).toInt = c'.length := by rw [z_sub, s1]; simp only [Int32.reduceToInt, List.length_cons]; simp only [List.length_cons] at hcl; omega
      have c4 : (F ck 4 - 1).toNatClampNeg = c'.length := by rw [z_cl, e4]; omega
      intro h7 e7
      rw [xW_i, xW_I] at e7
      subst e7
      have ei : va_up F ck (va_up (F ck) 4 (F ck 4 - 1)) ck 4 = F ck 4 - 1 := by rw [xh_up, if_pos rfl, xh_up, if_pos rfl]
      have eo : va_up F ck (va_up (F ck) 4 (F ck 4 - 1)) oa = F oa := by rw [xh_up, if_neg D2]
      refine ⟨oa, r3, ko, by rw [xW_i, ei, z_in, e4, xW_n]; simp only [List.length_cons] at hcl; omega, fun v11 e11 => ?_⟩
      rw [xW_i, ei, c4, eo] at e11
      have et : v11.toInt = t := by rw [e11]; exact so.1
      have hFr : ck_Fr S h0 h (va_up F ck (va_up (F ck) 4 (F ck 4 - 1))) := hF.up (.inl S1)
      have hS' : ck_S ck oa nt cd im ca rw R0 cb iv (va_up F ck (va_up (F ck) 4 (F ck 4 - 1))) c' (f :: r) ν lo g p lc ty := by
        have hck : ∀ j, j ≠ 4 → va_up F ck (va_up (F ck) 4 (F ck 4 - 1)) ck j = F ck j := fun j hj => by rw [xh_up, if_pos rfl, xh_up, if_neg hj]
        have hne : ∀ b, b ≠ ck → va_up F ck (va_up (F ck) 4 (F ck 4 - 1)) b = F b := fun b hb => by rw [xh_up, if_neg hb]
        refine ⟨⟨by rw [ei]; exact e4, by rw [hck 5 (by omega)]; exact s2, by rw [hck 7 (by omega)]; exact s3, by rw [hck 8 (by omega)]; exact s4, by rw [hck 9 (by omega)]; exact s5, by rw [hck 16 (by omega)]; exact s6⟩, by rw [hne oa D2]; exact so.2, sf.cg (fun k j k1 k2 _ => by rw [hne (ca k) (D9 k (by omega)).1]), by rw [hne nt D5.symm]; exact s7, by rw [hne (ca 0) (D9 0 (by omega)).1]; exact s8, by rw [hne cd D6.symm]; exact s9, by rw [hne im D7.symm]; exact s10, fun k hk => by rw [hne (rw k) (D11 k hk).1]; exact s11 k hk, by simp only [List.length_cons] at s12; omega⟩
      have hlen : (fb f).length ≤ c'.length := by simp only [List.length_cons] at g1; omega
      have hlt : (s5b (sp5 f)).length < (t :: c').length := by show (fb f).length < _; rw [List.length_cons]; omega
      have ok : (t = x.toInt ∨ t = 0 ∨ x.toInt = 0) → R = K (v11.toInt, c') := fun h9 => by rw [hR, tkO_g e hlt h9, et]; rfl
      have e9p : (va_up F ck (va_up (F ck) 4 (F ck 4 - 1)) ck 9).toInt = p := by rw [xh_up, if_pos rfl, xh_up, if_neg (by omega)]; exact s5
      refine ⟨fun q1 => hQ v11 _ c' (.inr (.inl ⟨e, by rw [et], hlen, .inl ?_⟩)) hFr hS' (ok (.inl ?_)), fun q1 => ⟨fun q2 => hQ v11 _ c' (.inr (.inl ⟨e, by rw [et], hlen, .inr (.inl ?_)⟩)) hFr hS' (ok (.inr (.inl ?_))), fun q2 => ⟨fun q3 => hQ v11 _ c' (.inr (.inl ⟨e, by rw [et], hlen, .inr (.inr ?_)⟩)) hFr hS' (ok (.inr (.inr ?_))), fun q3 => ⟨md, r0, kmd, cz_fail (c := 21) hT hH hFr hc hb hRC ?_ rfl e9p⟩⟩⟩⟩
      · rw [q1]
      · rw [← et, q1]
      · rw [q2]; rfl
      · rw [← et, q2]; rfl
      · rw [q3]; rfl
      · rw [q3]; rfl
      · rw [hR, tkO_b e hlt ?_]
        · rfl
        · rw [← et]
          rintro (h9 | h9 | h9)
          · exact q1 (by rw [z_eq]; exact h9)
          · exact q2 (by rw [z_eq]; exact h9)
          · exact q3 (by rw [z_eq]; exact h9)
  · rw [xW_i, c16, z_lt, f5, s1] at g1
    rw [z_eq] at e
    simp only [Int32.reduceToInt] at e
    refine ⟨ca 6, h6.1, h6.2.1, by rw [z_in, xW_i, e16, xW_n, h6.2.2.1]; simp only [List.length_cons] at hfl; omega, fun g2 => ?_, fun g2 => ⟨md, r0, kmd, cz_fail (c := 21) hT hH hF hc hb hRC (by rw [xW_i, c16, z_eq, f6] at g2; rw [hR, tkO_n (f := sp5 f) e (by show _ ≤ (fb f).length; omega) (by show fd f = 0; exact g2)]; rfl) rfl s5⟩⟩
    rw [xW_i, c16, z_eq, f6] at g2
    simp only [Int32.reduceToInt] at g2
    exact hQ 0 F cur (.inr (.inr ⟨e, by omega, g2, rfl, rfl⟩)) hF hS (by rw [hR, tkO_d (f := sp5 f) e (by show _ ≤ (fb f).length; omega) (by show ¬ fd f = 0; exact g2)]; rfl)
  · refine hQ 64 F cur (.inl ⟨?_, rfl, rfl⟩) hF hS (by rw [hR, tkO_64 (by rw [e]; rfl)]; rfl)
    rw [e]
    rfl
theorem cz_require {x1 x2 : Int32} {Qr : xb_H → Nat → Nat → Prop} (hT : ckT S h0 md rd op ck ca rc rs b C Qt) (hH : ck_H S h0 h md rd op ck cd nt im N oa ca rw it n vs cb iv R0) (hF : ck_Fr S h0 h F) (hc : rc + 1 ≤ bc) (hb : rs + 6 ≤ bs) {K : Except Nat cO} {c : Nat} (hS9 : (F ck 9).toInt = p) (hRC : rcC C R p b) (hx2 : x2.toInt = c) (hR : (¬ x1 = 0 → R = K) ∧ (x1 = 0 → R = .error c)) (hQ : ¬ x1 = 0 → R = K → Qr (xb_W h F) bc bs) : w_Checker_require ck x1 x2 (xb_W h F) bc bs Qr Qt := by
  obtain ⟨-, -, ⟨r0, -⟩, -, -, kck, kmd, -⟩ := id hH
  unfold w_Checker_require w_Checker_require_L16
  exact ⟨fun h9 => hQ h9 (hR.1 h9), fun h9 => ⟨kck, md, r0, kmd, cz_fail hT hH hF hc hb hRC (hR.2 h9) hx2 hS9⟩⟩
theorem cz_checkLabel {x : Int32} {k : Nat} {Qr : Int32 → xb_H → Nat → Nat → Prop} (hT : ckT S h0 md rd op ck ca rc rs b C Qt) (hH : ck_H S h0 h md rd op ck cd nt im N oa ca rw it n vs cb iv R0) (hF : ck_Fr S h0 h F) (hc : rc + 1 ≤ bc) (hb : rs + 6 ≤ bs) (hS : ck_S ck oa nt cd im ca rw R0 cb iv F cur fs ν lo g p lc ty) (hx : x.toInt = k) (hk : k < N) (hfl : fs.length ≤ 201) {K : Int → Except Nat cO} (hRC : rcC C R p b) (hR : R = (labO (fs.map sp5) (ν k).toBitVec.toNat).bind K)
    (hQ : ∀ (u : Int32) (F' : Nat → Nat → Int32) (i : Nat) (f' : ckF) (w : Int32), (ν k).toInt = i → fs[i]? = some f' → u.toInt = (fs.length - 1 - i : Nat) → i < fs.length → w.toInt = fa f' → (F' (ca 3) (fs.length - 1 - i)).toInt = fl_ f' → ck_Fr S h0 h F' → ck_S ck oa nt cd im ca rw R0 cb iv F' cur fs (va_up ν k w) lo g p lc ty → R = K (fl_ f') → Qr u (xb_W h F') bc bs) : w_Checker_checkLabel ck x (xb_W h F) bc bs Qr Qt := by
  obtain ⟨⟨s1, s2, s3, s4, s5, s6⟩, so, sf, s7, s8, s9, s10, s11, s12⟩ := id hS
  obtain ⟨-, -, ⟨r0, r1, r2, r3, ko, lo1, lo2⟩, hD, ⟨S1, S2, S3⟩, kck, kmd, ha, hN, ⟨knt, nnt, kcd, ncd⟩⟩ := id hH
  obtain ⟨⟨D1, D2, D3, D4⟩, ⟨D5, D6, D7⟩, D8, D9, D10, D11⟩ := id hD
  have a2 : xb_r h ck 11 = some (ca 2) ∧ xb_k h (ca 2) = 102 ∧ xb_n h (ca 2) = 201 ∧ S (ca 2) := ha 2 (by omega)
  have cx : x.toNatClampNeg = k := by rw [z_cl, hx]; omega
  unfold w_Checker_checkLabel
  refine ⟨kck, nt, r2, knt, by rw [z_in, hx, xW_n, nnt]; omega, ?_⟩
  rw [xW_i, s7, cx]
  refine sp_isThere (fun r6 e6 _ => ⟨fun f1 => ?_, fun f1 => ⟨md, r0, kmd, cz_fail (c := 20) hT hH hF hc hb hRC (by rw [hR, labO_n (by rw [List.length_map]; exact e6.elim (fun f2 => by have f2 := f2.2; rw [Z_of32, s6] at f2; have := z_nat (ν k); have := z_rg (ν k); omega) (fun f2 => by have f2 := f2.1; rw [f1] at f2; exact absurd f2 (by decide)))]; rfl) rfl s5⟩⟩)
  rcases e6 with ⟨f2, -⟩ | ⟨-, f2, f3⟩
  · exact absurd f2 f1
  rw [Z_of32] at f2 f3
  rw [s6] at f3
  obtain ⟨i, hi⟩ : ∃ i : Nat, (ν k).toInt = i := ⟨(ν k).toInt.toNat, by omega⟩
  have hil : i < fs.length := by omega
  obtain ⟨f', b1, b2, b3, b4, b5⟩ := cf_o.at hil sf
  unfold w_Checker_checkLabel_L30
  refine ⟨kck, nt, r2, knt, by rw [z_in, hx, xW_n, nnt]; omega, fun v5 e5 => ?_⟩
  rw [xW_i, s7, cx] at e5
  have ev : v5.toInt = (fs.length - 1 - i : Nat) := by
    have e9 : (F ck 16 - 1).toInt = fs.length - 1 := by rw [z_sub, s6]; simp only [Int32.reduceToInt]; omega
    rw [e5, z_sub, e9, hi]
    omega
  have cv : v5.toNatClampNeg = fs.length - 1 - i := by rw [z_cl, ev]; omega
  refine ⟨nt, r2, ca 2, a2.1, a2.2.1, by rw [z_in, ev, xW_n, a2.2.2.1]; omega, knt, by rw [z_in, hx, xW_n, nnt]; omega, fun h12 e12 => ?_⟩
  rw [xW_i, xW_I, cx, cv] at e12
  subst e12
  refine hQ v5 _ i f' (F (ca 2) (fs.length - 1 - i)) hi b1 ev hil b3 ?_ (hF.up (.inr S3)) (hS.nt_ hD) (by rw [hR, show (ν k).toBitVec.toNat = i by have := z_nat (ν k); have := z_rg (ν k); omega, labO_s b1]; rfl)
  rw [xh_up, if_neg (D9 3 (by omega)).2.2.1]
  exact b4
theorem cz_checkSelect {Qr : xb_H → Nat → Nat → Prop} (hT : ckT S h0 md rd op ck ca rc rs b C Qt) (hH : ck_H S h0 h md rd op ck cd nt im N oa ca rw it n vs cb iv R0) (hF : ck_Fr S h0 h F) (hc : rc + 1 ≤ bc) (hb : rs + 6 ≤ bs) (hS : ck_S ck oa nt cd im ca rw R0 cb iv F cur (f :: r) ν lo g p lc ty) (hcl : (cur.length : Int) ≤ N) (hg : g ≤ 100000) (hfl : (f :: r).length ≤ 201) (hty : ∀ t ∈ cur, ck_t t) (hRC : rcC C R p b) (hR : R = (tkO (sp5 f) cur 127).bind (fun a => (tkO (sp5 f) a.2 0).bind (fun b => (tkO (sp5 f) b.2 b.1).bind (fun c => .ok (ptC c.2 g (if b.1 = 0 then c.1 else b.1) (sp5 f :: r.map sp5))))))
    (hQ : ∀ (F' : Nat → Nat → Int32) (c1 c2 c3 cur' : List Int) (r3 r5 r7 g' : Int), ck_tk f cur 127 r3 c1 → ck_tk f c1 0 r5 c2 → ck_tk f c2 r5 r7 c3 → ck_pt c3 g (if r5 = 0 then r7 else r5) cur' g' → ck_Fr S h0 h F' → ck_S ck oa nt cd im ca rw R0 cb iv F' cur' (f :: r) ν lo g' p lc ty → R = .ok (cur', (f :: r).map sp5, g') → Qr (xb_W h F') bc bs) : w_Checker_checkSelect ck (xb_W h F) bc bs Qr Qt := by
  have kck : xb_k h ck = 5 := hH.2.2.2.2.2.1
  unfold w_Checker_checkSelect
  refine ⟨kck, cz_take (K := fun a => (tkO (sp5 f) a.2 0).bind (fun b => (tkO (sp5 f) b.2 b.1).bind (fun c => .ok (ptC c.2 g (if b.1 = 0 then c.1 else b.1) (sp5 f :: r.map sp5))))) hT hH hF hc hb hS hcl hfl hRC hR (fun u1 F1 c1 t1 hF1 hS1 R1 _ => cz_take (cur := c1) (K := fun b => (tkO (sp5 f) b.2 b.1).bind (fun c => .ok (ptC c.2 g (if b.1 = 0 then c.1 else b.1) (sp5 f :: r.map sp5)))) hT hH hF1 hc hb hS1 (by have := t1.len; omega) hfl hRC R1 (fun u2 F2 c2 t2 hF2 hS2 R2 _ => cz_take (cur := c2) (K := fun c => .ok (ptC c.2 g (if u2.toInt = 0 then c.1 else u2.toInt) (sp5 f :: r.map sp5))) hT hH hF2 hc hb hS2 (by have := t1.len; have := t2.len; omega) hfl hRC R2 (fun u3 F3 c3 t3 hF3 hS3 R3 _ => ?_)))⟩
  have l1 := t1.len
  have l2 := t2.len
  have l3 := t3.len
  have y1 := t1.ty2 hty
  obtain ⟨y2, y2'⟩ := t2.ty (by decide) y1
  have y5 : u2.toInt ≠ 64 := by unfold ck_t at y2; omega
  obtain ⟨y3, -⟩ := t3.ty y5 y2'
  have z2 : (0 : Int32).toInt = 0 := rfl
  have z1 : (127 : Int32).toInt = 127 := rfl
  rw [z1] at t1
  rw [z2] at t2
  unfold w_Checker_checkSelect_L29
  unfold ck_t at y2 y3
  refine ⟨fun e => ⟨kck, cs_put hH hF3 hS3 (by omega) (by omega) (by omega) (fun F4 cur' g' q hF4 hS4 _ => hQ F4 c1 c2 c3 cur' _ _ _ g' t1 t2 t3 ?_ hF4 hS4 ?_)⟩, fun e => ⟨kck, cs_put hH hF3 hS3 (by omega) (by omega) (by omega) (fun F4 cur' g' q hF4 hS4 _ => hQ F4 c1 c2 c3 cur' _ _ _ g' t1 t2 t3 ?_ hF4 hS4 ?_)⟩⟩
  · rw [z_eq, z2] at e
    rw [if_neg e]
    exact q
  · rw [z_eq, z2] at e
    rw [R3, if_neg e, ptC_k q]
    rfl
  · rw [z_eq, z2] at e
    rw [if_pos e]
    exact q
  · rw [z_eq, z2] at e
    rw [R3, if_pos e, ptC_k q]
    rfl
theorem cz_checkOpening {x : Int32} {q : Nat} {Qr : xb_H → Nat → Nat → Prop} (lv : Bool) (hT : ckT S h0 md rd op ck ca rc rs b C Qt) (hH : ck_H S h0 h md rd op ck cd nt im N oa ca rw it n vs cb iv R0) (hF : ck_Fr S h0 h F) (hc : rc + 1 ≤ bc) (hb : rs + 6 ≤ bs) (hS : ck_S ck oa nt cd im ca rw R0 cb iv F cur (f :: r) ν lo g q lc ty) (hcl : (cur.length : Int) ≤ N) (hg : g ≤ 100000) (hfl : (f :: r).length ≤ 201) (hfl2 : (f :: r).length ≤ 200) (hq : q + 1 < N) (hx : x.toInt = 2 ∨ x.toInt = 3 ∨ x.toInt = 4) (hRC : rcC C R q b) (hR2 : x.toInt ≠ 4 → R = .ok (cur, (x.toInt, (if x.toInt = 3 then 64 else (cb (q + 1)).toInt), (cb (q + 1)).toInt, cur, 0) :: (f :: r).map sp5, g)) (hR4 : x.toInt = 4 → R = (tkO (sp5 f) cur 127).bind (fun a => .ok (a.2, (4, (cb (q + 1)).toInt, (cb (q + 1)).toInt, a.2, 0) :: (f :: r).map sp5, g)))
    (hQ : ∀ (F' : Nat → Nat → Int32) (c1 : List Int) (w : Int32), (x.toInt ≠ 4 → c1 = cur) → (x.toInt = 4 → ∃ r3, ck_tk f cur 127 r3 c1) → w.toInt = c1.length → ck_Fr S h0 h F' → ck_S ck oa nt cd im ca rw R0 cb iv F' c1 ((x.toInt, q, (if x.toInt = 3 then 64 else (cb (q + 1)).toInt), (cb (q + 1)).toInt, c1, 0, lv) :: f :: r) (va_up ν q w) lo g q lc ty → R = .ok (c1, ((x.toInt, (q : Int), (if x.toInt = 3 then 64 else (cb (q + 1)).toInt), (cb (q + 1)).toInt, c1, 0, lv) :: f :: r).map sp5, g) → Qr (xb_W h F') bc bs) : w_Checker_checkOpening ck x (xb_W h F) bc bs Qr Qt := by
  have kck : xb_k h ck = 5 := hH.2.2.2.2.2.1
  obtain ⟨-, -, ⟨r0, r1, r2, r3, ko, lo1, lo2⟩, hD, ⟨S1, S2, S3⟩, -, kmd, ha, hN, ⟨knt, nnt, kcd, ncd⟩⟩ := id hH
  have L12 : ∀ (F1 : Nat → Nat → Int32) (c1 : List Int), ck_Fr S h0 h F1 → ck_S ck oa nt cd im ca rw R0 cb iv F1 c1 (f :: r) ν lo g q lc ty → (x.toInt ≠ 4 → c1 = cur) → (x.toInt = 4 → ∃ r3, ck_tk f cur 127 r3 c1) → R = .ok (c1, ((x.toInt, (q : Int), (if x.toInt = 3 then 64 else (cb (q + 1)).toInt), (cb (q + 1)).toInt, c1, 0, lv) :: f :: r).map sp5, g) → w_Checker_checkOpening_L12 Qr Qt ck x (xb_W h F1) bc bs := by
    intro F1 c1 hF1 hS1 g1 g2 g3
    obtain ⟨⟨s1, s2, s3, s4, s5, s6⟩, so, sf, s7, s8, s9, s10, s11, s12⟩ := id hS1
    have e9 : (F1 ck 9 + 1).toInt = q + 1 := by rw [z_add, s5]; simp only [Int32.reduceToInt]; omega
    have c9 : (F1 ck 9).toNatClampNeg = q := by rw [z_cl, s5]; omega
    have c91 : (F1 ck 9 + 1).toNatClampNeg = q + 1 := by rw [z_cl, e9]; omega
    unfold w_Checker_checkOpening_L12
    refine ⟨kck, cd, r1, kcd, by rw [z_in, xW_i, e9, xW_n, ncd]; omega, fun v5 e5 => ⟨nt, r2, knt, by rw [z_in, xW_i, s5, xW_n, nnt]; omega, fun h9 e9' => ?_⟩⟩
    rw [xW_i, s9, c91] at e5
    rw [xW_i, xW_I, c9] at e9'
    subst e9'
    have hS2 := hS1.nt_ (k := q) (w := F1 ck 4) hD
    have hF2 : ck_Fr S h0 h (va_up F1 nt (va_up (F1 nt) q (F1 ck 4))) := hF1.up (.inr S3)
    have e29 : va_up F1 nt (va_up (F1 nt) q (F1 ck 4)) ck 9 = F1 ck 9 := by rw [xh_up, if_neg hD.2.1.1]
    unfold w_Checker_checkOpening_L54
    rw [xW_i, e29]
    refine ⟨fun e => ⟨kck, cs_openThing lv hH hF2 hS2 hfl2 (fun F3 hF3 hS3 _ => hQ F3 c1 (F1 ck 4) g1 g2 s1 hF3 ?_ g3)⟩, fun e => ⟨kck, cs_openThing lv hH hF2 hS2 hfl2 (fun F3 hF3 hS3 _ => hQ F3 c1 (F1 ck 4) g1 g2 s1 hF3 ?_ g3)⟩⟩
    · rw [z_eq] at e
      simp only [Int32.reduceToInt] at e
      rw [if_neg e, ← e5, ← s5]
      rw [← s5] at hS3
      exact hS3
    · have e' := e
      rw [z_eq] at e
      simp only [Int32.reduceToInt] at e
      rw [if_pos e, ← e5, ← s5]
      rw [← s5] at hS3
      exact hS3
  unfold w_Checker_checkOpening
  refine ⟨fun e => ?_, fun e => ⟨kck, cz_take hT hH hF hc hb hS hcl hfl hRC (hR4 (by rw [e]; rfl)) (fun u F1 c1 t1 hF1 hS1 R1 _ => ?_)⟩⟩
  · rw [z_eq] at e
    simp only [Int32.reduceToInt] at e
    exact L12 F cur hF hS (fun _ => rfl) (fun e9 => absurd e9 e) (hR2 e)
  · rw [z_eq] at e
    simp only [Int32.reduceToInt] at e
    exact L12 F1 c1 hF1 hS1 (fun e9 => absurd e e9) (fun _ => ⟨_, t1⟩) (by rw [R1, e, if_neg (by decide)]; rfl)
theorem cz_checkCall {x : Int32} {t : Nat} {Qr : xb_H → Nat → Nat → Prop} (hT : ckT S h0 md rd op ck ca rc rs b C Qt) (hH : ck_H S h0 h md rd op ck cd nt im N oa ca rw it n vs cb iv R0) (hF : ck_Fr S h0 h F) (hc : rc + 1 ≤ bc) (hb : rs + 6 ≤ bs) (hS : ck_S ck oa nt cd im ca rw R0 cb iv F cur (f :: r) ν lo g p lc ty) (hcl : (cur.length : Int) ≤ N) (hg : g ≤ 100000) (hfl : (f :: r).length ≤ 201) (hL : xr_L 5 (mp0 N cb) (n 0) (vs 0)) (hx : x.toInt = t) (ht : t < n 0 / 5) {pa0 P0 : Nat} (hpa0 : (vs 0 (5 * t + 1)).toInt = pa0) (hP0 : (vs 0 (5 * t + 2)).toInt = P0) (hRC : rcC C R p b) (hR : R = (tkL (sp5 f) cur (ptl cb pa0 P0)).bind (fun c => .ok (ptC c g (vs 0 (5 * t + 4)).toInt ((f :: r).map sp5))))
    (hQ : ∀ (F' : Nat → Nat → Int32) (c1 cur' : List Int) (g' : Int) (pa P : Nat), (vs 0 (5 * t + 1)).toInt = pa → (vs 0 (5 * t + 2)).toInt = P → ck_tkl f cur (ptl cb pa P) c1 → ck_pt c1 g (vs 0 (5 * t + 4)).toInt cur' g' → ck_Fr S h0 h F' → ck_S ck oa nt cd im ca rw R0 cb iv F' cur' (f :: r) ν lo g' p lc ty → R = .ok (cur', (f :: r).map sp5, g') → Qr (xb_W h F') bc bs) : w_Checker_checkCall ck x (xb_W h F) bc bs Qr Qt := by
  have kck : xb_k h ck = 5 := hH.2.2.2.2.2.1
  have kmd : xb_k h md = 3 := hH.2.2.2.2.2.2.1
  have r0 := hH.2.2.1.1
  have hN : N ≤ 65536 := hH.2.2.2.2.2.2.2.2.1
  have hMo : ∀ (F' : Nat → Nat → Int32) (cur' : List Int), ck_S ck oa nt cd im ca rw R0 cb iv F' cur' (f :: r) ν lo g p lc ty → md_M (xb_W h F') md cd nt im N rw it n vs cb ν iv := fun F' cur' q => hH.2.1 F' ν q.2.2.2.1 q.2.2.2.2.2.1 q.2.2.2.2.2.2.1 q.2.2.2.2.2.2.2.1
  obtain ⟨pp, hi⟩ := hL.at (by omega) ht
  dsimp only [mp0] at pp
  obtain ⟨p0, p1, p2, p3, p4, -⟩ := pp
  obtain ⟨pa, hpa⟩ : ∃ pa : Nat, (vs 0 (5 * t + 1)).toInt = pa := ⟨(vs 0 (5 * t + 1)).toInt.toNat, by omega⟩
  obtain ⟨P, hP⟩ : ∃ P : Nat, (vs 0 (5 * t + 2)).toInt = P := ⟨(vs 0 (5 * t + 2)).toInt.toNat, by omega⟩
  have hP9 : P ≤ 65536 := by omega
  have key : ∀ (k : Nat) (y : Int32) (F1 : Nat → Nat → Int32) (c : List Int), y.toInt = (k : Int) - 1 → k ≤ P → ck_Fr S h0 h F1 → ck_S ck oa nt cd im ca rw R0 cb iv F1 c (f :: r) ν lo g p lc ty → (c.length : Int) ≤ N → (∀ c1, ck_tkl f c (ptl cb pa k) c1 → ck_tkl f cur (ptl cb pa P) c1) → R = (tkL (sp5 f) c (ptl cb pa k)).bind (fun c => .ok (ptC c g (vs 0 (5 * t + 4)).toInt ((f :: r).map sp5))) → w_Checker_checkCall_L11 Qr Qt (k + 1) ck x y (xb_W h F1) bc bs := by
    clear hi p0 p1 p2 p3 p4
    intro k
    induction k with
    | zero =>
      intro y F1 c g1 g2 hF1 hS1 g3 g4 g5
      unfold w_Checker_checkCall_L11
      refine ⟨fun _ => ⟨kck, md, r0, kmd, md_resultType (hMo F1 c hS1) hL hx ht (fun r6 e6 e6' _ => cs_put hH hF1 hS1 g3 (by omega) (by omega) (fun F2 cur' g' q hF2 hS2 _ => hQ F2 c cur' g' pa P hpa hP (g4 c rfl) (by rw [← e6]; exact q) hF2 hS2 (by rw [e6] at q; rw [g5]; show Except.ok (ptC c g _ _) = _; rw [ptC_k q])))⟩, fun e => ?_⟩
      rw [z_lt, g1] at e
      simp only [Int32.reduceToInt] at e
      omega
    | succ k ih =>
      intro y F1 c g1 g2 hF1 hS1 g3 g4 g5
      have ey : y.toInt = k := by rw [g1]; simp
      have hk9 : k ≤ 1000000 := by omega
      have hkP : (k : Int) < (vs 0 (5 * t + 2)).toInt := by rw [hP]; omega
      unfold w_Checker_checkCall_L11
      refine ⟨fun e => ?_, fun _ => ⟨kck, md, r0, kmd, md_parameterType (hMo F1 c hS1) hL hx ht ey hkP (fun q q1 q2 q3 _ => cz_take (K := fun a => (tkL (sp5 f) a.2 (ptl cb pa k)).bind (fun c => .ok (ptC c g (vs 0 (5 * t + 4)).toInt ((f :: r).map sp5)))) hT hH hF1 hc hb hS1 g3 hfl hRC (by rw [g5, ptl_s, show pa + k = q by rw [hpa] at q1; omega]; exact tkL_b) (fun u F2 c2 t2 hF2 hS2 R2 _ => ih (y + (-1)) F2 c2 (z_dec ey hk9) (by omega) hF2 hS2 (by have := t2.len; omega) (fun c1 h1 => g4 c1 ⟨u.toInt, c2, ?_, h1⟩) R2))⟩⟩
      · rw [z_lt, ey] at e
        simp only [Int32.reduceToInt] at e
        omega
      · have eq : q = pa + k := by rw [hpa] at q1; omega
        rw [← eq]
        exact t2
  unfold w_Checker_checkCall
  refine ⟨kck, md, r0, kmd, md_parameters (hMo F cur hS) hL hx ht (fun r5 e5 e5a e5b _ v6 e6 => ⟨P + 1, key P v6 F cur ?_ (Nat.le_refl P) hF hS hcl (fun _ h => h) (by rw [hR, show pa0 = pa by omega, show P0 = P by omega])⟩)⟩
  rw [e6, z_sub, e5, hP]
  simp only [Int32.reduceToInt]
  omega
end CC7
