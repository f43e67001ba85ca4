-- the checker in a body: put, die, require, opening
theorem z_byte (x : Int32) : (x.toInt8.toInt32).toInt = (x.toInt + 128) % 256 - 128 := by
  rw [Int8.toInt_toInt32, Int32.toInt_toInt8]
  unfold Int.bmod
  simp only [Nat.reducePow]
  split <;> omega
section CS2
variable {S : Nat → Prop} {h0 h : xb_H} {md rd op ck cd nt im N oa rc rs : Nat} {ca : Nat → Nat} {rw it n : Nat → Nat} {vs : Nat → Nat → Int64} {cb ν iv lo : Nat → Int32} {R0 F : Nat → Nat → Int32} {bc bs : Nat} {Qt : String → xb_H → Nat → Nat → Prop} {cur : List Int} {fs r : List ckF} {f : ckF} {g p lc ty : Int}
/-- other fields of the checker -/
theorem ck_S.upk {cur' : List Int} {fs' : List ckF} {g' p' lc' ty' : Int} {φ : Nat → Int32} (hD : ck_D ck oa nt cd im ca rw) (hS : ck_S ck oa nt cd im ca rw R0 cb iv F cur fs ν lo g p lc ty)
    (h1 : (φ 4).toInt = cur'.length ∧ (φ 5).toInt = g' ∧ (φ 7).toInt = lc' ∧ (φ 8).toInt = ty' ∧ (φ 9).toInt = p' ∧ (φ 16).toInt = fs'.length) (h2 : cs_o (F oa) cur') (h3 : cf_o (fun k => F (ca k)) fs') (h4 : (cur'.length : Int) ≤ g') : ck_S ck oa nt cd im ca rw R0 cb iv (va_up F ck φ) cur' fs' ν lo g' p' lc' ty' := by
  obtain ⟨-, so, sf, s7, s8, s9, s10, s11, s12⟩ := hS
  obtain ⟨⟨D1, D2, D3, D4⟩, ⟨D5, D6, D7⟩, D8, D9, D10, D11⟩ := hD
  have hne : ∀ b, b ≠ ck → va_up F ck φ b = F b := fun b hb => by rw [xh_up, if_neg hb]
  have hck : va_up F ck φ ck = φ := by rw [xh_up, if_pos rfl]
  refine ⟨by rw [hck]; exact h1, by rw [hne oa D2]; exact h2, h3.cg (fun k j k1 k2 _ => by rw [hne (ca k) (D9 k (by omega)).1]), by rw [hne nt D5.symm]; exact s7, by rw [hne (ca 0) (D9 0 (by omega)).1]; exact s8, by rw [hne cd D6.symm]; exact s9, by rw [hne im D7.symm]; exact s10, fun k hk => by rw [hne (rw k) (D11 k hk).1]; exact s11 k hk, h4⟩
/-- the rows of open things -/
theorem ck_S.cak {k : Nat} {φ : Nat → Int32} {fs' : List ckF} (hD : ck_D ck oa nt cd im ca rw) (hS : ck_S ck oa nt cd im ca rw R0 cb iv F cur fs ν lo g p lc ty) (hk : 1 ≤ k ∧ k ≤ 6) (hl : fs'.length = fs.length) (h3 : cf_o (fun j => va_up F (ca k) φ (ca j)) fs') : ck_S ck oa nt cd im ca rw R0 cb iv (va_up F (ca k) φ) cur fs' ν lo g p lc ty := by
  obtain ⟨⟨s1, s2, s3, s4, s5, s6⟩, so, sf, s7, s8, s9, s10, s11, s12⟩ := hS
  obtain ⟨⟨D1, D2, D3, D4⟩, ⟨D5, D6, D7⟩, D8, D9, D10, D11⟩ := hD
  obtain ⟨d1, d2, d3, d4, d5⟩ := D9 k (by omega)
  have hne : ∀ b, b ≠ ca k → va_up F (ca k) φ b = F b := fun b hb => by rw [xh_up, if_neg hb]
  have h0 : ca 0 ≠ ca k := fun e => by have := D10 0 k (by omega) (by omega) e; omega
  rw [← hl] at s6
  exact ⟨by rw [hne ck d1.symm]; exact ⟨s1, s2, s3, s4, s5, s6⟩, by rw [hne oa d2.symm]; exact so, h3, by rw [hne nt d3.symm]; exact s7, by rw [hne (ca 0) h0]; exact s8, by rw [hne cd d4.symm]; exact s9, by rw [hne im d5.symm]; exact s10, fun j hj => by rw [hne (rw j) ((D11 j hj).2.2.2 k (by omega))]; exact s11 j hj, s12⟩
theorem cs_put {x : Int32} {Qr : xb_H → Prop} (hH : ck_H S h0 h md rd op ck cd nt im N oa ca rw it n vs cb iv R0) (hF : ck_Fr S h0 h F) (hS : ck_S ck oa nt cd im ca rw R0 cb iv F cur fs ν lo g p lc ty) (hcl : (cur.length : Int) ≤ N) (hg : g ≤ 1000000) (hx : x.toInt = 64 ∨ x.toInt = 0 ∨ 124 ≤ x.toInt ∧ x.toInt ≤ 127)
    (hQ : ∀ (F' : Nat → Nat → Int32) (cur' : List Int) (g' : Int), ((x.toInt = 64 ∧ cur' = cur ∧ g' = g) ∨ (x.toInt ≠ 64 ∧ cur' = x.toInt :: cur ∧ g' = max g (cur.length + 1))) → ck_Fr S h0 h F' → ck_S ck oa nt cd im ca rw R0 cb iv F' cur' fs ν lo g' p lc ty → Qr (xb_W h F')) : w_Checker_put ck x (xb_W h F) Qr := by
  obtain ⟨⟨s1, s2, s3, s4, s5, s6⟩, so, sf, s7, s8, s9, s10, s11, s12⟩ := id hS
  obtain ⟨-, -, ⟨r0, r1, r2, r3, ko, lo1, lo2⟩, hD, ⟨S1, S2, S3⟩, kck, kmd, ha, hN, -⟩ := id hH
  obtain ⟨⟨D1, D2, D3, D4⟩, ⟨D5, D6, D7⟩, D8, D9, D10, D11⟩ := id hD
  have c4 : (F ck 4).toNatClampNeg = cur.length := by rw [z_cl, s1]; omega
  unfold w_Checker_put w_Checker_put_L42
  refine ⟨fun e => hQ F cur g (.inl ⟨by rw [e]; rfl, rfl, rfl⟩) hF hS, fun e => ⟨kck, oa, r3, ko, by rw [z_in, xW_i, s1, xW_n]; omega, fun h6 e6 h7 e7 h8 e8 => ?_⟩⟩
  rw [z_eq] at e
  simp only [Int32.reduceToInt] at e
  rw [xW_i, xW_I, c4, pk_vb] at e6
  subst e6
  obtain ⟨F1, hF1⟩ : ∃ F1, F1 = va_up F oa (va_up (F oa) cur.length x.toInt8.toInt32) := ⟨_, rfl⟩
  rw [← hF1] at e7
  rw [xW_i, xW_I] at e7
  subst e7
  have hne : ∀ b, b ≠ oa → F1 b = F b := fun b hb => by rw [hF1, xh_up, if_neg hb]
  have hoa : F1 oa = va_up (F oa) cur.length x.toInt8.toInt32 := by rw [hF1, xh_up, if_pos rfl]
  have hFr1 : ck_Fr S h0 h F1 := by rw [hF1]; exact hF.up S2
  have hS1 : ck_S ck oa nt cd im ca rw R0 cb iv F1 cur fs ν lo g p lc ty := by
    refine ⟨by rw [hne ck D2.symm]; exact ⟨s1, s2, s3, s4, s5, s6⟩, by rw [hoa]; exact so.up (Nat.le_refl _), sf.cg (fun k j k1 k2 _ => by rw [hne (ca k) (D9 k (by omega)).2.1]), by rw [hne nt D3.symm]; exact s7, by rw [hne (ca 0) (D9 0 (by omega)).2.1]; exact s8, by rw [hne cd D1.symm]; exact s9, by rw [hne im D4.symm]; exact s10, fun k hk => by rw [hne (rw k) (D11 k hk).2.1]; exact s11 k hk, s12⟩
  have eck : F1 ck = F ck := hne ck D2.symm
  rw [eck] at e8
  have e41 : (F ck 4 + 1).toInt = cur.length + 1 := by rw [z_add, s1]; simp only [Int32.reduceToInt]; omega
  have k4 : va_up F1 ck (va_up (F ck) 4 (F ck 4 + 1)) ck 4 = F ck 4 + 1 := by rw [xh_up, if_pos rfl, xh_up, if_pos rfl]
  have k5 : va_up F1 ck (va_up (F ck) 4 (F ck 4 + 1)) ck 5 = F ck 5 := by rw [xh_up, if_pos rfl, xh_up, if_neg (by omega)]
  rw [xW_i, xW_I, k4, k5, bx_uu, xh_up, if_pos rfl] at e8
  subst e8
  have eg : (if F ck 5 < F ck 4 + 1 then F ck 4 + 1 else F ck 5).toInt = max g (cur.length + 1) := by
    split
    · rename_i h9
      rw [z_lt, s2, e41] at h9
      rw [e41]
      omega
    · rename_i h9
      rw [z_lt, s2, e41] at h9
      rw [s2]
      omega
  refine hQ _ (x.toInt :: cur) (max g (cur.length + 1)) (.inr ⟨e, rfl, rfl⟩) (hFr1.up (.inl S1)) (hS1.upk hD ⟨?_, ?_, ?_, ?_, ?_, ?_⟩ ⟨?_, hS1.2.1⟩ hS1.2.2.1 ?_)
  · rw [xh_up, if_neg (by omega), xh_up, if_pos rfl, e41]
    simp
  · rw [xh_up, if_pos rfl]
    exact eg
  · rw [xh_up, if_neg (by omega), xh_up, if_neg (by omega)]
    exact s3
  · rw [xh_up, if_neg (by omega), xh_up, if_neg (by omega)]
    exact s4
  · rw [xh_up, if_neg (by omega), xh_up, if_neg (by omega)]
    exact s5
  · rw [xh_up, if_neg (by omega), xh_up, if_neg (by omega)]
    exact s6
  · rw [hoa, xh_up, if_pos rfl, z_byte]
    omega
  · simp only [List.length_cons]
    omega
theorem cs_require {x1 x2 : Int32} {Qr : xb_H → Nat → Nat → Prop} (hT : ck_T S h0 md rd op ck ca rc rs Qt) (hH : ck_H S h0 h md rd op ck cd nt im N oa ca rw it n vs cb iv R0) (hF : ck_Fr S h0 h F) (hc : rc + 1 ≤ bc) (hb : rs + 6 ≤ bs) (hQ : ¬ x1 = 0 → Qr (xb_W h F) bc bs) : w_Checker_require ck x1 x2 (xb_W h F) bc bs Qr Qt := by
  obtain ⟨-, -, ⟨r0, -⟩, -, -, kck, kmd, -⟩ := id hH
  unfold w_Checker_require w_Checker_require_L16
  exact ⟨hQ, fun _ => ⟨kck, md, r0, kmd, cs_fail hT hH hF hc hb⟩⟩
theorem cs_die {Qr : xb_H → Prop} {ex : List Int} (hH : ck_H S h0 h md rd op ck cd nt im N oa ca rw it n vs cb iv R0) (hF : ck_Fr S h0 h F) (hS : ck_S ck oa nt cd im ca rw R0 cb iv F cur (f :: r) ν lo g p lc ty) (hex : cur = ex ++ fb f) (hfl : (f :: r).length ≤ 201)
    (hQ : ∀ F' : Nat → Nat → Int32, ck_Fr S h0 h F' → ck_S ck oa nt cd im ca rw R0 cb iv F' (fb f) ((fk f, fa f, fl_ f, fe f, fb f, 1, fv f) :: r) ν lo g p lc ty → Qr (xb_W h F')) : w_Checker_die ck (xb_W h F) Qr := by
  obtain ⟨⟨s1, s2, s3, s4, s5, s6⟩, so, sf, s7, s8, s9, s10, s11, s12⟩ := id hS
  obtain ⟨-, -, ⟨r0, r1, r2, r3, ko, lo1, lo2⟩, hD, ⟨S1, S2, S3⟩, kck, kmd, ha, hN, -⟩ := id hH
  obtain ⟨⟨D1, D2, D3, D4⟩, ⟨D5, D6, D7⟩, D8, D9, D10, D11⟩ := id hD
  have h5 := ha 5 (by omega)
  have h6 := ha 6 (by omega)
  simp only [show ((5 : Nat) = 0) = False by simp, show ((6 : Nat) = 0) = False by simp, if_false, show ((5 : Nat) = 6) = False by simp, if_true] at h5 h6
  have e16 : (F ck 16 - 1).toInt = r.length := by rw [z_sub, s6]; simp only [Int32.reduceToInt, List.length_cons]; simp only [List.length_cons] at hfl; omega
  have c16 : (F ck 16 - 1).toNatClampNeg = r.length := by rw [z_cl, e16]; omega
  obtain ⟨⟨f1, f2, f3, f4, f5, f6⟩, sr⟩ := id sf
  unfold w_Checker_die
  refine ⟨kck, ca 5, h5.1, h5.2.1, by rw [z_in, xW_i, e16, xW_n, h5.2.2.1]; simp only [List.length_cons] at hfl; omega, fun h7 e7 => ?_⟩
  rw [xW_i, xW_I, c16] at e7
  subst e7
  obtain ⟨F1, hF1⟩ : ∃ F1, F1 = va_up F ck (va_up (F ck) 4 (F (ca 5) r.length)) := ⟨_, rfl⟩
  rw [← hF1]
  have hFr1 : ck_Fr S h0 h F1 := by rw [hF1]; exact hF.up (.inl S1)
  have hl : (fb f).length ≤ cur.length := by rw [hex]; simp
  have hS1 : ck_S ck oa nt cd im ca rw R0 cb iv F1 (fb f) (f :: r) ν lo g p lc ty := by
    rw [hF1]
    refine hS.upk hD ⟨by rw [xh_up, if_pos rfl]; exact f5, by rw [xh_up, if_neg (by omega)]; exact s2, by rw [xh_up, if_neg (by omega)]; exact s3, by rw [xh_up, if_neg (by omega)]; exact s4, by rw [xh_up, if_neg (by omega)]; exact s5, by rw [xh_up, if_neg (by omega)]; exact s6⟩ ?_ sf (by omega)
    rw [hex] at so
    exact so.suf
  have e1 : F1 ck 16 = F ck 16 := by rw [hF1, xh_up, if_pos rfl, xh_up, if_neg (by omega)]
  refine ⟨ca 6, h6.1, h6.2.1, by rw [z_in, xW_i, e1, e16, xW_n, h6.2.2.1]; simp only [List.length_cons] at hfl; omega, fun h9 e9 => ?_⟩
  rw [xW_i, xW_I, e1, c16, show vp_nar .boolean 1 = 1 from rfl] at e9
  subst e9
  refine hQ _ (hFr1.up (.inl h6.2.2.2)) (hS1.cak hD (by omega) rfl ?_)
  have hca : ∀ j, 1 ≤ j → j ≤ 6 → j ≠ 6 → ca j ≠ ca 6 := fun j j1 j2 j3 e => j3 (D10 j 6 (by omega) (by omega) e)
  have sf1 := hS1.2.2.1
  obtain ⟨⟨t1, t2, t3, t4, t5, t6⟩, tr⟩ := id sf1
  refine ⟨⟨?_, ?_, ?_, ?_, ?_, ?_⟩, tr.cg (fun k j k1 k2 kj => ?_)⟩
  · show (va_up F1 (ca 6) _ (ca 1) r.length).toInt = _
    rw [xh_up, if_neg (hca 1 (by omega) (by omega) (by omega))]; exact t1
  · show (va_up F1 (ca 6) _ (ca 2) r.length).toInt = _
    rw [xh_up, if_neg (hca 2 (by omega) (by omega) (by omega))]; exact t2
  · show (va_up F1 (ca 6) _ (ca 3) r.length).toInt = _
    rw [xh_up, if_neg (hca 3 (by omega) (by omega) (by omega))]; exact t3
  · show (va_up F1 (ca 6) _ (ca 4) r.length).toInt = _
    rw [xh_up, if_neg (hca 4 (by omega) (by omega) (by omega))]; exact t4
  · show (va_up F1 (ca 6) _ (ca 5) r.length).toInt = _
    rw [xh_up, if_neg (hca 5 (by omega) (by omega) (by omega))]; exact t5
  · show (va_up F1 (ca 6) _ (ca 6) r.length).toInt = _
    rw [xh_up, if_pos rfl, xh_up, if_pos rfl]; rfl
  · show va_up F1 (ca 6) _ (ca k) j = F1 (ca k) j
    rw [xh_up]
    split
    · rename_i e9
      rw [xh_up, if_neg (by omega), ← e9]
    · rfl
end CS2
